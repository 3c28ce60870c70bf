set_option maxHeartbeats 4000000 in
set_option maxRecDepth 100000 in
theorem c_X7_fails (l : Launch) (D : va_G) (ca : Nat → ClassId) (o : Nat → Nat) (f1 f2 f3 f4 f5 f6 f7 f8 f9 f10 : Value) (thr : Int32) (v : Int32) (hN : [o 0].Nodup) : zMw l yX7_fails cX7_fails 2 (some .int) 0 0 D ca [(o 0, .inr (7, [.int thr, f1, f2, f3, f4, f5, f6, f7, f8, f9, f10]))] ([(o 0, .inr (7, [.int v, f1, f2, f3, f4, f5, f6, f7, f8, f9, f10]))]) [.ref (o 0), .int v] (some (.int 0)) := by
  refine zMw_of (own := RX7) (by decide) rfl (Nat.le_of_ble_eq_true rfl) ?_
  intro p e s m args below meth c ls S hr hlk hP hK hl hS
  have hP : va_P D vwCl [(o 0, .inr (7, [.int thr, f1, f2, f3, f4, f5, f6, f7, f8, f9, f10]))] s.heap := hP
  have hS : va_S (zA [o 0]) s.heap s.heap [] := hS
  have hA : ∀ q ∈ [o 0], zA [o 0] q := fun _ h => h
  have hD := zDto (ws := [(o 0, .inr (7, [.int thr, f1, f2, f3, f4, f5, f6, f7, f8, f9, f10]))]) hN hA rfl
  have hx := S.1
  have hb := S.2.1
  have hl : lv_has ls 2 [(0, .ref (o 0)), (1, .int v)] := hl
  refine lv_aload_n hx hb dX7_fails_0 rfl (lv_at hl 0 rfl) ?_
  refine lv_iload_n hx hb dX7_fails_1 rfl (lv_at hl 1 rfl) ?_
  refine z_put S in_lay_X7 tyX7_ok nmX7 hK hP hD hS rfl 0 rfl 0 (by decide) fl_X7_22 rfl rfl rfl rfl (Nat.le_of_ble_eq_true rfl) dX7_fails_2 (fun H locs hP hS => ?_)
  have hP : va_P D vwCl [(o 0, .inr (7, [.int v, f1, f2, f3, f4, f5, f6, f7, f8, f9, f10]))] H := hP
  have hD := zDto (ws := [(o 0, .inr (7, [.int v, f1, f2, f3, f4, f5, f6, f7, f8, f9, f10]))]) hN hA rfl
  refine lv_iconst (v := 0) hx hb dX7_fails_5 (by decide) ?_
  exact zw_i hx hb hr hlk hP hS ⟨by rfl, by rfl⟩ dX7_fails_6
set_option maxHeartbeats 4000000 in
set_option maxRecDepth 100000 in
theorem c_X7_thrown (l : Launch) (D : va_G) (ca : Nat → ClassId) (o : Nat → Nat) (f1 f2 f3 f4 f5 f6 f7 f8 f9 f10 : Value) (thr : Int32)  : zMr l yX7_thrown cX7_thrown 1 (some .int) 0 0 D ca [(o 0, .inr (7, [.int thr, f1, f2, f3, f4, f5, f6, f7, f8, f9, f10]))] [.ref (o 0)] (.int thr) := by
  refine zMr_of (own := RX7) (by decide) rfl (Nat.le_of_ble_eq_true rfl) ?_
  intro p e s m args below meth c ls S hr hlk hP hK hl
  have hx := S.1
  have hb := S.2.1
  have hl : lv_has ls 1 [(0, .ref (o 0))] := hl
  refine lv_aload_n hx hb dX7_thrown_0 rfl (lv_at hl 0 rfl) ?_
  refine z_get S in_lay_X7 hK hP rfl 0 rfl 0 (by decide) fl_X7_22 rfl rfl dX7_thrown_1 ?_
  exact zr_i hx hb hr hlk (by rfl) dX7_thrown_4
set_option maxHeartbeats 4000000 in
set_option maxRecDepth 100000 in
theorem c_X7_saves (l : Launch) (D : va_G) (ca : Nat → ClassId) (o : Nat → Nat) (f0 f4 f5 f6 f7 f8 f9 f10 : Value) (mm : Nat) (sf : Nat → Int32) (sv : Nat → Int32) (h0 : mm ≤ 6)  (hN : [o 0, o 1, o 2].Nodup) : zMw l yX7_saves cX7_saves 2 none 0 0 D ca [(o 0, .inr (7, [f0, .ref (o 1), .ref (o 2), .int (nI mm), f4, f5, f6, f7, f8, f9, f10])), (o 1, .inl (ca 0, 99, .inl sf)), (o 2, .inl (ca 0, 594, .inl sv))] ([(o 0, .inr (7, [f0, .ref (o 1), .ref (o 2), .int (nI (rSm mm)), f4, f5, f6, f7, f8, f9, f10])), (o 1, .inl (ca 0, 99, .inl sf)), (o 2, .inl (ca 0, 594, .inl (rSv sf sv mm)))]) [.ref (o 0)] none := by
  refine zMw_of (own := RX7) (by decide) rfl (Nat.le_of_ble_eq_true rfl) ?_
  intro p e s m args below meth c ls S hr hlk hP hK hl hS
  have hP : va_P D vwCl [(o 0, .inr (7, [f0, .ref (o 1), .ref (o 2), .int (nI mm), f4, f5, f6, f7, f8, f9, f10])), (o 1, .inl (ca 0, 99, .inl sf)), (o 2, .inl (ca 0, 594, .inl sv))] s.heap := hP
  have hS : va_S (zA [o 0, o 1, o 2]) s.heap s.heap [] := hS
  have hA : ∀ q ∈ [o 0, o 1, o 2], zA [o 0, o 1, o 2] q := fun _ h => h
  have hD := zDto (ws := [(o 0, .inr (7, [f0, .ref (o 1), .ref (o 2), .int (nI mm), f4, f5, f6, f7, f8, f9, f10])), (o 1, .inl (ca 0, 99, .inl sf)), (o 2, .inl (ca 0, 594, .inl sv))]) hN hA rfl
  have hx := S.1
  have hb := S.2.1
  have hl : lv_has ls 2 [(0, .ref (o 0))] := hl
  refine lv_aload_n hx hb dX7_saves_0 rfl (lv_at hl 0 rfl) ?_
  refine z_get S in_lay_X7 hK hP rfl 0 rfl 3 (by decide) fl_X7_30 rfl rfl dX7_saves_1 ?_
  refine lv_bipush (v := 6) hx hb dX7_saves_4 (by decide) ?_
  refine zn_ne hx hb (x := mm) (y := 6) (by omega) (by omega) (tgt := 49) dX7_saves_6 (by decide) (fun c_6_1 => ?_) (fun c_6_1 => ?_)
  · refine lv_iconst (v := 0) hx hb dX7_saves_49 (by decide) ?_
    refine lv_istore_n (lv' := [(1, .int 0), (0, .ref (o 0))]) hx hb dX7_saves_50 rfl hl (by decide) rfl (fun ls hl => ?_)
    have loop_1 : ∀ (f : Nat) (k : Nat) (uv : Nat → Int32) (H : Heap) (locs : List Loc) (ls : Array Slot), k + f = 99 → uv = rPu sf sv (99 * mm) k → lv_has ls 2 [(0, .ref (o 0)), (1, .int (nI k))] → va_P D vwCl [(o 0, .inr (7, [f0, .ref (o 1), .ref (o 2), .int (nI mm), f4, f5, f6, f7, f8, f9, f10])), (o 1, .inl (ca 0, 99, .inl sf)), (o 2, .inl (ca 0, 594, .inl uv))] H → va_S (zA [o 0, o 1, o 2]) s.heap H locs → W p l e { frames := 0, cells := 0, slots := 0, locals := 0 } s m args below meth c H locs 0 0 (MQ below (zQw D [o 0, o 1, o 2] ([(o 0, .inr (7, [f0, .ref (o 1), .ref (o 2), .int (nI (rSm mm)), f4, f5, f6, f7, f8, f9, f10])), (o 1, .inl (ca 0, 99, .inl sf)), (o 2, .inl (ca 0, 594, .inl (rSv sf sv mm)))]) none) args s 0 0 (zA [o 0, o 1, o 2])) (F0 m 51 ls []) := by
      intro f
      induction f with
      | zero =>
        intro k uv H locs ls j1 j2 hl hP hS
        have hD := zDto (ws := [(o 0, .inr (7, [f0, .ref (o 1), .ref (o 2), .int (nI mm), f4, f5, f6, f7, f8, f9, f10])), (o 1, .inl (ca 0, 99, .inl sf)), (o 2, .inl (ca 0, 594, .inl uv))]) hN hA rfl
        refine lv_iload_n hx hb dX7_saves_51 rfl (lv_at hl 1 rfl) ?_
        refine lv_bipush (v := 99) hx hb dX7_saves_52 (by decide) ?_
        refine zn_ge hx hb (x := k) (y := 99) (by omega) (by omega) (tgt := 83) dX7_saves_54 (by decide) (fun c_54_3 => ?_) (fun h => False.elim (by omega))
        refine lv_aload_n hx hb dX7_saves_83 rfl (lv_at hl 0 rfl) ?_
        refine lv_dup hx hb dX7_saves_84 rfl ?_
        refine z_get S in_lay_X7 hK hP rfl 0 rfl 3 (by decide) fl_X7_30 rfl rfl dX7_saves_85 ?_
        refine lv_iconst (v := 1) hx hb dX7_saves_88 (by decide) ?_
        refine zn_add hx hb (x := mm) (y := 1) (z := mm + 1) (by omega) dX7_saves_89 ?_
        refine z_put S in_lay_X7 tyX7_ok nmX7 hK hP hD hS rfl 0 rfl 3 (by decide) fl_X7_30 rfl rfl rfl rfl (Nat.le_of_ble_eq_true rfl) dX7_saves_90 (fun H locs hP hS => ?_)
        have hP : va_P D vwCl [(o 0, .inr (7, [f0, .ref (o 1), .ref (o 2), .int (nI (mm + 1)), f4, f5, f6, f7, f8, f9, f10])), (o 1, .inl (ca 0, 99, .inl sf)), (o 2, .inl (ca 0, 594, .inl uv))] H := hP
        have hD := zDto (ws := [(o 0, .inr (7, [f0, .ref (o 1), .ref (o 2), .int (nI (mm + 1)), f4, f5, f6, f7, f8, f9, f10])), (o 1, .inl (ca 0, 99, .inl sf)), (o 2, .inl (ca 0, 594, .inl uv))]) hN hA rfl
        exact zw_v hx hb hr hlk hP hS (by rw [rSv, rSm, if_neg (by assumption), if_neg (by assumption), j2, show k = 99 by omega] <;> rfl) dX7_saves_93
      | succ f ih =>
        intro k uv H locs ls j1 j2 hl hP hS
        have hD := zDto (ws := [(o 0, .inr (7, [f0, .ref (o 1), .ref (o 2), .int (nI mm), f4, f5, f6, f7, f8, f9, f10])), (o 1, .inl (ca 0, 99, .inl sf)), (o 2, .inl (ca 0, 594, .inl uv))]) hN hA rfl
        refine lv_iload_n hx hb dX7_saves_51 rfl (lv_at hl 1 rfl) ?_
        refine lv_bipush (v := 99) hx hb dX7_saves_52 (by decide) ?_
        refine zn_ge hx hb (x := k) (y := 99) (by omega) (by omega) (tgt := 83) dX7_saves_54 (by decide) (fun h => False.elim (by omega)) (fun c_54_4 => ?_)
        refine lv_aload_n hx hb dX7_saves_57 rfl (lv_at hl 0 rfl) ?_
        refine z_get S in_lay_X7 hK hP rfl 0 rfl 2 (by decide) fl_X7_13 rfl rfl dX7_saves_58 ?_
        refine lv_bipush (v := 99) hx hb dX7_saves_61 (by decide) ?_
        refine lv_aload_n hx hb dX7_saves_63 rfl (lv_at hl 0 rfl) ?_
        refine z_get S in_lay_X7 hK hP rfl 0 rfl 3 (by decide) fl_X7_30 rfl rfl dX7_saves_64 ?_
        refine zn_mul hx hb (x := 99) (y := mm) (z := 99 * mm) (by first | rfl | omega) dX7_saves_67 ?_
        refine lv_iload_n hx hb dX7_saves_68 rfl (lv_at hl 1 rfl) ?_
        refine zn_add hx hb (x := 99 * mm) (y := k) (z := (99 * mm) + k) (by omega) dX7_saves_69 ?_
        refine lv_aload_n hx hb dX7_saves_70 rfl (lv_at hl 0 rfl) ?_
        refine z_get S in_lay_X7 hK hP rfl 0 rfl 1 (by decide) fl_X7_7 rfl rfl dX7_saves_71 ?_
        refine lv_iload_n hx hb dX7_saves_74 rfl (lv_at hl 1 rfl) ?_
        refine z_iald S hK hP 1 rfl (j := k) (by omega) (by decide) dX7_saves_75 ?_
        refine z_iast S hK hP hD hS 2 rfl (j := (99 * mm) + k) (by omega) (by decide) dX7_saves_76 (fun H locs hP hS => ?_)
        have hP : va_P D vwCl [(o 0, .inr (7, [f0, .ref (o 1), .ref (o 2), .int (nI mm), f4, f5, f6, f7, f8, f9, f10])), (o 1, .inl (ca 0, 99, .inl sf)), (o 2, .inl (ca 0, 594, .inl (upd uv ((99 * mm) + k) (sf k))))] H := hP
        have hD := zDto (ws := [(o 0, .inr (7, [f0, .ref (o 1), .ref (o 2), .int (nI mm), f4, f5, f6, f7, f8, f9, f10])), (o 1, .inl (ca 0, 99, .inl sf)), (o 2, .inl (ca 0, 594, .inl (upd uv ((99 * mm) + k) (sf k))))]) hN hA rfl
        refine lv_iinc (v := nI (k + 1)) (lv' := [(1, .int (nI (k + 1))), (0, .ref (o 0))]) hx hb dX7_saves_77 hl (k := 1) rfl (zinc k 1) (by decide) rfl (fun ls hl => ?_)
        refine lv_goto (tgt := 51) hx hb dX7_saves_80 (by decide) ?_
        exact ih (k + 1) (upd uv ((99 * mm) + k) (sf k)) _ _ ls (by omega) (by rw [j2]; exact rPu_s _ _ _ _) (lv_sub hl [1, 0] rfl) hP hS
    exact loop_1 99 0 sv _ _ ls (by omega) (by exact rPu_0 _ _ _) (lv_sub hl [1, 0] rfl) hP hS
  · refine lv_iconst (v := 0) hx hb dX7_saves_9 (by decide) ?_
    refine lv_istore_n (lv' := [(1, .int 0), (0, .ref (o 0))]) hx hb dX7_saves_10 rfl hl (by decide) rfl (fun ls hl => ?_)
    have loop_4 : ∀ (f : Nat) (k : Nat) (uv : Nat → Int32) (H : Heap) (locs : List Loc) (ls : Array Slot), k + f = 495 → uv = rShk sv k → lv_has ls 2 [(0, .ref (o 0)), (1, .int (nI k))] → va_P D vwCl [(o 0, .inr (7, [f0, .ref (o 1), .ref (o 2), .int (nI mm), f4, f5, f6, f7, f8, f9, f10])), (o 1, .inl (ca 0, 99, .inl sf)), (o 2, .inl (ca 0, 594, .inl uv))] H → va_S (zA [o 0, o 1, o 2]) s.heap H locs → W p l e { frames := 0, cells := 0, slots := 0, locals := 0 } s m args below meth c H locs 0 0 (MQ below (zQw D [o 0, o 1, o 2] ([(o 0, .inr (7, [f0, .ref (o 1), .ref (o 2), .int (nI (rSm mm)), f4, f5, f6, f7, f8, f9, f10])), (o 1, .inl (ca 0, 99, .inl sf)), (o 2, .inl (ca 0, 594, .inl (rSv sf sv mm)))]) none) args s 0 0 (zA [o 0, o 1, o 2])) (F0 m 11 ls []) := by
      intro f
      induction f with
      | zero =>
        intro k uv H locs ls j1 j2 hl hP hS
        have hD := zDto (ws := [(o 0, .inr (7, [f0, .ref (o 1), .ref (o 2), .int (nI mm), f4, f5, f6, f7, f8, f9, f10])), (o 1, .inl (ca 0, 99, .inl sf)), (o 2, .inl (ca 0, 594, .inl uv))]) hN hA rfl
        refine lv_iload_n hx hb dX7_saves_11 rfl (lv_at hl 1 rfl) ?_
        refine lv_sipush (v := 495) hx hb dX7_saves_12 (by decide) ?_
        refine zn_ge hx hb (x := k) (y := 495) (by omega) (by omega) (tgt := 39) dX7_saves_15 (by decide) (fun c_15_6 => ?_) (fun h => False.elim (by omega))
        refine lv_aload_n hx hb dX7_saves_39 rfl (lv_at hl 0 rfl) ?_
        refine lv_dup hx hb dX7_saves_40 rfl ?_
        refine z_get S in_lay_X7 hK hP rfl 0 rfl 3 (by decide) fl_X7_30 rfl rfl dX7_saves_41 ?_
        refine lv_iconst (v := 1) hx hb dX7_saves_44 (by decide) ?_
        refine zn_sub hx hb (x := mm) (y := 1) (z := 5) (by omega) dX7_saves_45 ?_
        refine z_put S in_lay_X7 tyX7_ok nmX7 hK hP hD hS rfl 0 rfl 3 (by decide) fl_X7_30 rfl rfl rfl rfl (Nat.le_of_ble_eq_true rfl) dX7_saves_46 (fun H locs hP hS => ?_)
        have hP : va_P D vwCl [(o 0, .inr (7, [f0, .ref (o 1), .ref (o 2), .int 5, f4, f5, f6, f7, f8, f9, f10])), (o 1, .inl (ca 0, 99, .inl sf)), (o 2, .inl (ca 0, 594, .inl uv))] H := hP
        have hD := zDto (ws := [(o 0, .inr (7, [f0, .ref (o 1), .ref (o 2), .int 5, f4, f5, f6, f7, f8, f9, f10])), (o 1, .inl (ca 0, 99, .inl sf)), (o 2, .inl (ca 0, 594, .inl uv))]) hN hA rfl
        refine lv_iconst (v := 0) hx hb dX7_saves_49 (by decide) ?_
        refine lv_istore_n (lv' := [(1, .int 0), (0, .ref (o 0))]) hx hb dX7_saves_50 rfl hl (by decide) rfl (fun ls hl => ?_)
        have loop_6 : ∀ (f : Nat) (k : Nat) (uv : Nat → Int32) (H : Heap) (locs : List Loc) (ls : Array Slot), k + f = 99 → uv = rPu sf (rSh sv) 495 k → lv_has ls 2 [(0, .ref (o 0)), (1, .int (nI k))] → va_P D vwCl [(o 0, .inr (7, [f0, .ref (o 1), .ref (o 2), .int 5, f4, f5, f6, f7, f8, f9, f10])), (o 1, .inl (ca 0, 99, .inl sf)), (o 2, .inl (ca 0, 594, .inl uv))] H → va_S (zA [o 0, o 1, o 2]) s.heap H locs → W p l e { frames := 0, cells := 0, slots := 0, locals := 0 } s m args below meth c H locs 0 0 (MQ below (zQw D [o 0, o 1, o 2] ([(o 0, .inr (7, [f0, .ref (o 1), .ref (o 2), .int (nI (rSm mm)), f4, f5, f6, f7, f8, f9, f10])), (o 1, .inl (ca 0, 99, .inl sf)), (o 2, .inl (ca 0, 594, .inl (rSv sf sv mm)))]) none) args s 0 0 (zA [o 0, o 1, o 2])) (F0 m 51 ls []) := by
          intro f
          induction f with
          | zero =>
            intro k uv H locs ls j1 j2 hl hP hS
            have hD := zDto (ws := [(o 0, .inr (7, [f0, .ref (o 1), .ref (o 2), .int 5, f4, f5, f6, f7, f8, f9, f10])), (o 1, .inl (ca 0, 99, .inl sf)), (o 2, .inl (ca 0, 594, .inl uv))]) hN hA rfl
            refine lv_iload_n hx hb dX7_saves_51 rfl (lv_at hl 1 rfl) ?_
            refine lv_bipush (v := 99) hx hb dX7_saves_52 (by decide) ?_
            refine zn_ge hx hb (x := k) (y := 99) (by omega) (by omega) (tgt := 83) dX7_saves_54 (by decide) (fun c_54_8 => ?_) (fun h => False.elim (by omega))
            refine lv_aload_n hx hb dX7_saves_83 rfl (lv_at hl 0 rfl) ?_
            refine lv_dup hx hb dX7_saves_84 rfl ?_
            refine z_get S in_lay_X7 hK hP rfl 0 rfl 3 (by decide) fl_X7_30 rfl rfl dX7_saves_85 ?_
            refine lv_iconst (v := 1) hx hb dX7_saves_88 (by decide) ?_
            refine t_iadd hx hb dX7_saves_89 (v := 6) (by decide) ?_
            refine z_put S in_lay_X7 tyX7_ok nmX7 hK hP hD hS rfl 0 rfl 3 (by decide) fl_X7_30 rfl rfl rfl rfl (Nat.le_of_ble_eq_true rfl) dX7_saves_90 (fun H locs hP hS => ?_)
            have hP : va_P D vwCl [(o 0, .inr (7, [f0, .ref (o 1), .ref (o 2), .int 6, f4, f5, f6, f7, f8, f9, f10])), (o 1, .inl (ca 0, 99, .inl sf)), (o 2, .inl (ca 0, 594, .inl uv))] H := hP
            have hD := zDto (ws := [(o 0, .inr (7, [f0, .ref (o 1), .ref (o 2), .int 6, f4, f5, f6, f7, f8, f9, f10])), (o 1, .inl (ca 0, 99, .inl sf)), (o 2, .inl (ca 0, 594, .inl uv))]) hN hA rfl
            exact zw_v hx hb hr hlk hP hS (by rw [rSv, rSm, if_pos (by assumption), if_pos (by assumption), j2, show k = 99 by omega] <;> rfl) dX7_saves_93
          | succ f ih =>
            intro k uv H locs ls j1 j2 hl hP hS
            have hD := zDto (ws := [(o 0, .inr (7, [f0, .ref (o 1), .ref (o 2), .int 5, f4, f5, f6, f7, f8, f9, f10])), (o 1, .inl (ca 0, 99, .inl sf)), (o 2, .inl (ca 0, 594, .inl uv))]) hN hA rfl
            refine lv_iload_n hx hb dX7_saves_51 rfl (lv_at hl 1 rfl) ?_
            refine lv_bipush (v := 99) hx hb dX7_saves_52 (by decide) ?_
            refine zn_ge hx hb (x := k) (y := 99) (by omega) (by omega) (tgt := 83) dX7_saves_54 (by decide) (fun h => False.elim (by omega)) (fun c_54_9 => ?_)
            refine lv_aload_n hx hb dX7_saves_57 rfl (lv_at hl 0 rfl) ?_
            refine z_get S in_lay_X7 hK hP rfl 0 rfl 2 (by decide) fl_X7_13 rfl rfl dX7_saves_58 ?_
            refine lv_bipush (v := 99) hx hb dX7_saves_61 (by decide) ?_
            refine lv_aload_n hx hb dX7_saves_63 rfl (lv_at hl 0 rfl) ?_
            refine z_get S in_lay_X7 hK hP rfl 0 rfl 3 (by decide) fl_X7_30 rfl rfl dX7_saves_64 ?_
            refine t_imul hx hb dX7_saves_67 (v := 495) (by decide) ?_
            refine lv_iload_n hx hb dX7_saves_68 rfl (lv_at hl 1 rfl) ?_
            refine zn_add hx hb (x := 495) (y := k) (z := 495 + k) (by omega) dX7_saves_69 ?_
            refine lv_aload_n hx hb dX7_saves_70 rfl (lv_at hl 0 rfl) ?_
            refine z_get S in_lay_X7 hK hP rfl 0 rfl 1 (by decide) fl_X7_7 rfl rfl dX7_saves_71 ?_
            refine lv_iload_n hx hb dX7_saves_74 rfl (lv_at hl 1 rfl) ?_
            refine z_iald S hK hP 1 rfl (j := k) (by omega) (by decide) dX7_saves_75 ?_
            refine z_iast S hK hP hD hS 2 rfl (j := 495 + k) (by omega) (by decide) dX7_saves_76 (fun H locs hP hS => ?_)
            have hP : va_P D vwCl [(o 0, .inr (7, [f0, .ref (o 1), .ref (o 2), .int 5, f4, f5, f6, f7, f8, f9, f10])), (o 1, .inl (ca 0, 99, .inl sf)), (o 2, .inl (ca 0, 594, .inl (upd uv (495 + k) (sf k))))] H := hP
            have hD := zDto (ws := [(o 0, .inr (7, [f0, .ref (o 1), .ref (o 2), .int 5, f4, f5, f6, f7, f8, f9, f10])), (o 1, .inl (ca 0, 99, .inl sf)), (o 2, .inl (ca 0, 594, .inl (upd uv (495 + k) (sf k))))]) hN hA rfl
            refine lv_iinc (v := nI (k + 1)) (lv' := [(1, .int (nI (k + 1))), (0, .ref (o 0))]) hx hb dX7_saves_77 hl (k := 1) rfl (zinc k 1) (by decide) rfl (fun ls hl => ?_)
            refine lv_goto (tgt := 51) hx hb dX7_saves_80 (by decide) ?_
            exact ih (k + 1) (upd uv (495 + k) (sf k)) _ _ ls (by omega) (by rw [j2]; exact rPu_s _ _ _ _) (lv_sub hl [1, 0] rfl) hP hS
        exact loop_6 99 0 uv _ _ ls (by omega) (by rw [j2, show k = 495 by omega]; exact rPu_0 _ _ _) (lv_sub hl [1, 0] rfl) hP hS
      | succ f ih =>
        intro k uv H locs ls j1 j2 hl hP hS
        have hD := zDto (ws := [(o 0, .inr (7, [f0, .ref (o 1), .ref (o 2), .int (nI mm), f4, f5, f6, f7, f8, f9, f10])), (o 1, .inl (ca 0, 99, .inl sf)), (o 2, .inl (ca 0, 594, .inl uv))]) hN hA rfl
        refine lv_iload_n hx hb dX7_saves_11 rfl (lv_at hl 1 rfl) ?_
        refine lv_sipush (v := 495) hx hb dX7_saves_12 (by decide) ?_
        refine zn_ge hx hb (x := k) (y := 495) (by omega) (by omega) (tgt := 39) dX7_saves_15 (by decide) (fun h => False.elim (by omega)) (fun c_15_10 => ?_)
        refine lv_aload_n hx hb dX7_saves_18 rfl (lv_at hl 0 rfl) ?_
        refine z_get S in_lay_X7 hK hP rfl 0 rfl 2 (by decide) fl_X7_13 rfl rfl dX7_saves_19 ?_
        refine lv_iload_n hx hb dX7_saves_22 rfl (lv_at hl 1 rfl) ?_
        refine lv_aload_n hx hb dX7_saves_23 rfl (lv_at hl 0 rfl) ?_
        refine z_get S in_lay_X7 hK hP rfl 0 rfl 2 (by decide) fl_X7_13 rfl rfl dX7_saves_24 ?_
        refine lv_iload_n hx hb dX7_saves_27 rfl (lv_at hl 1 rfl) ?_
        refine lv_bipush (v := 99) hx hb dX7_saves_28 (by decide) ?_
        refine zn_add hx hb (x := k) (y := 99) (z := k + 99) (by omega) dX7_saves_30 ?_
        refine z_iald S hK hP 2 rfl (j := k + 99) (by omega) (by decide) dX7_saves_31 ?_
        refine z_iast S hK hP hD hS 2 rfl (j := k) (by omega) (by decide) dX7_saves_32 (fun H locs hP hS => ?_)
        have hP : va_P D vwCl [(o 0, .inr (7, [f0, .ref (o 1), .ref (o 2), .int (nI mm), f4, f5, f6, f7, f8, f9, f10])), (o 1, .inl (ca 0, 99, .inl sf)), (o 2, .inl (ca 0, 594, .inl (upd uv k (uv (k + 99)))))] H := hP
        have hD := zDto (ws := [(o 0, .inr (7, [f0, .ref (o 1), .ref (o 2), .int (nI mm), f4, f5, f6, f7, f8, f9, f10])), (o 1, .inl (ca 0, 99, .inl sf)), (o 2, .inl (ca 0, 594, .inl (upd uv k (uv (k + 99)))))]) hN hA rfl
        refine lv_iinc (v := nI (k + 1)) (lv' := [(1, .int (nI (k + 1))), (0, .ref (o 0))]) hx hb dX7_saves_33 hl (k := 1) rfl (zinc k 1) (by decide) rfl (fun ls hl => ?_)
        refine lv_goto (tgt := 11) hx hb dX7_saves_36 (by decide) ?_
        exact ih (k + 1) (upd uv k (uv (k + 99))) _ _ ls (by omega) (by rw [j2]; exact rShk_s _ _) (lv_sub hl [1, 0] rfl) hP hS
    exact loop_4 495 0 sv _ _ ls (by omega) (by exact rShk_0 _) (lv_sub hl [1, 0] rfl) hP hS
set_option maxHeartbeats 4000000 in
set_option maxRecDepth 100000 in
theorem c_X7_sign (l : Launch) (D : va_G) (ca : Nat → ClassId) (o : Nat → Nat) (f0 f1 f2 f3 f7 f8 f9 f10 : Value) (n : Nat) (i : Nat) (g : Nat → Nat) (h0 : n ≤ 60) (h1 : ∀ k, g k < 128) (h2 : i ≤ n)  : zMr l yX7_sign cX7_sign 1 (some .int) 0 0 D ca [(o 0, .inr (7, [f0, f1, f2, f3, .ref (o 3), .int (nI n), .int (nI i), f7, f8, f9, f10])), (o 3, .inl (ca 0, 60, .inl (fun k => nI (g k))))] [.ref (o 0)] (.int (nI (zSg g n i))) := by
  refine zMr_of (own := RX7) (by decide) rfl (Nat.le_of_ble_eq_true rfl) ?_
  intro p e s m args below meth c ls S hr hlk hP hK hl
  have hx := S.1
  have hb := S.2.1
  have hl : lv_has ls 1 [(0, .ref (o 0))] := hl
  refine lv_aload_n hx hb dX7_sign_0 rfl (lv_at hl 0 rfl) ?_
  refine z_get S in_lay_X7 hK hP rfl 0 rfl 6 (by decide) fl_X7_132 rfl rfl dX7_sign_1 ?_
  refine lv_aload_n hx hb dX7_sign_4 rfl (lv_at hl 0 rfl) ?_
  refine z_get S in_lay_X7 hK hP rfl 0 rfl 5 (by decide) fl_X7_129 rfl rfl dX7_sign_5 ?_
  refine zn_ge hx hb (x := i) (y := n) (by omega) (by omega) (tgt := 23) dX7_sign_8 (by decide) (fun c_8_1 => ?_) (fun c_8_1 => ?_)
  · refine lv_iconst (v := 0) hx hb dX7_sign_23 (by decide) ?_
    exact zr_i hx hb hr hlk (by unfold zSg; split <;> first | rfl | (exfalso; omega)) dX7_sign_24
  · refine lv_aload_n hx hb dX7_sign_11 rfl (lv_at hl 0 rfl) ?_
    refine z_get S in_lay_X7 hK hP rfl 0 rfl 4 (by decide) fl_X7_16 rfl rfl dX7_sign_12 ?_
    refine lv_aload_n hx hb dX7_sign_15 rfl (lv_at hl 0 rfl) ?_
    refine z_get S in_lay_X7 hK hP rfl 0 rfl 6 (by decide) fl_X7_132 rfl rfl dX7_sign_16 ?_
    refine z_iald S hK hP 1 rfl (j := i) (by omega) (by decide) dX7_sign_19 ?_
    refine lv_goto (tgt := 24) hx hb dX7_sign_20 (by decide) ?_
    exact zr_i hx hb hr hlk (by unfold zSg; split <;> first | rfl | (exfalso; omega)) dX7_sign_24
set_option maxHeartbeats 4000000 in
set_option maxRecDepth 100000 in
theorem c_X7_digit (l : Launch) (D : va_G) (ca : Nat → ClassId) (o : Nat → Nat) (f0 f1 f2 f3 f8 f9 f10 : Value) (n : Nat) (i : Nat) (wl : Bool) (g : Nat → Nat) (h0 : n ≤ 60) (h1 : ∀ k, g k < 128) (h2 : i ≤ n) (v : Int32) (hN : [o 0, o 3].Nodup) : zMw l yX7_digit cX7_digit 3 (some .int) 1 22 D ca [(o 0, .inr (7, [f0, f1, f2, f3, .ref (o 3), .int (nI n), .int (nI i), .int (zb wl), f8, f9, f10])), (o 3, .inl (ca 0, 60, .inl (fun k => nI (g k))))] ([(o 0, .inr (7, [f0, f1, f2, f3, .ref (o 3), .int (nI n), .int (nI ((rDt g n i wl v).2.1)), .int (zb ((rDt g n i wl v).2.2)), f8, f9, f10])), (o 3, .inl (ca 0, 60, .inl (fun k => nI (g k))))]) [.ref (o 0), .int v] (some (.int ((rDt g n i wl v).1))) := by
  refine zMw_of (own := RX7) (by decide) rfl (Nat.le_of_ble_eq_true rfl) ?_
  intro p e s m args below meth c ls S hr hlk hP hK hl hS
  have hP : va_P D vwCl [(o 0, .inr (7, [f0, f1, f2, f3, .ref (o 3), .int (nI n), .int (nI i), .int (zb wl), f8, f9, f10])), (o 3, .inl (ca 0, 60, .inl (fun k => nI (g k))))] s.heap := hP
  have hS : va_S (zA [o 0, o 3]) s.heap s.heap [] := hS
  have hA : ∀ q ∈ [o 0, o 3], zA [o 0, o 3] q := fun _ h => h
  have hD := zDto (ws := [(o 0, .inr (7, [f0, f1, f2, f3, .ref (o 3), .int (nI n), .int (nI i), .int (zb wl), f8, f9, f10])), (o 3, .inl (ca 0, 60, .inl (fun k => nI (g k))))]) hN hA rfl
  have hx := S.1
  have hb := S.2.1
  have hl : lv_has ls 3 [(0, .ref (o 0)), (1, .int v)] := hl
  refine lv_aload_n hx hb dX7_digit_0 rfl (lv_at hl 0 rfl) ?_
  refine lv_aload_n hx hb dX7_digit_1 rfl (lv_at hl 0 rfl) ?_
  refine z_get S in_lay_X7 hK hP rfl 0 rfl 7 (by decide) fl_X7_135 rfl rfl dX7_digit_2 ?_
  refine zz_eq (tgt := 25) hx hb dX7_digit_5 (by decide) (fun c_5_1 => ?_) (fun c_5_1 => ?_)
  · refine lv_iconst (v := 0) hx hb dX7_digit_25 (by decide) ?_
    have hzi : i < i + 1 := Nat.lt_succ_self i
    refine z_put S in_lay_X7 tyX7_ok nmX7 hK hP hD hS rfl 0 rfl 7 (by decide) fl_X7_135 rfl rfl rfl rfl (Nat.le_of_ble_eq_true rfl) dX7_digit_26 (fun H locs hP hS => ?_)
    have hP : va_P D vwCl [(o 0, .inr (7, [f0, f1, f2, f3, .ref (o 3), .int (nI n), .int (nI i), .int (zb false), f8, f9, f10])), (o 3, .inl (ca 0, 60, .inl (fun k => nI (g k))))] H := hP
    have hD := zDto (ws := [(o 0, .inr (7, [f0, f1, f2, f3, .ref (o 3), .int (nI n), .int (nI i), .int (zb false), f8, f9, f10])), (o 3, .inl (ca 0, 60, .inl (fun k => nI (g k))))]) hN hA rfl
    refine lv_aload_n hx hb dX7_digit_29 rfl (lv_at hl 0 rfl) ?_
    refine zcr (As := []) (rest := []) (q0 := 0) S (c_X7_sign l D ca o f0 f1 f2 f3 (.int (zb false)) f8 f9 f10 n i g (by first | assumption | omega) (by first | assumption | omega) (by first | assumption | omega) ) ml_X7_139 zy_X7_sign im_X7_sign se_X7_sign ⟨Nat.le_of_ble_eq_true rfl, Nat.le_of_ble_eq_true rfl⟩ hK hP [0, 1] rfl rfl rfl rfl rfl hl.1 rfl (Nat.le_of_ble_eq_true rfl) ⟨Nat.zero_le _, Nat.zero_le _⟩ dX7_digit_30 ?_
    have hsg : zSg g n i < 128 := zSg_lt (by assumption)
    refine lv_bipush (v := 48) hx hb dX7_digit_33 (by decide) ?_
    refine lv_isub hx hb dX7_digit_35 ?_
    refine lv_istore_n (lv' := [(2, .int ((nI (zSg g n i)) - 48)), (0, .ref (o 0)), (1, .int v)]) hx hb dX7_digit_36 rfl hl (by decide) rfl (fun ls hl => ?_)
    refine lv_aload_n hx hb dX7_digit_37 rfl (lv_at hl 1 rfl) ?_
    refine lv_dup hx hb dX7_digit_38 rfl ?_
    refine z_get S in_lay_X7 hK hP rfl 0 rfl 6 (by decide) fl_X7_132 rfl rfl dX7_digit_39 ?_
    refine lv_aload_n hx hb dX7_digit_42 rfl (lv_at hl 1 rfl) ?_
    refine z_get S in_lay_X7 hK hP rfl 0 rfl 7 (by decide) fl_X7_135 rfl rfl dX7_digit_43 ?_
    refine lv_if_eq (tgt := 53) hx hb dX7_digit_46 (by decide) (fun _ => ?_) (fun h => absurd (by decide) h)
    refine lv_iconst (v := 0) hx hb dX7_digit_53 (by decide) ?_
    refine zn_add hx hb (x := i) (y := 0) (z := i) (by omega) dX7_digit_54 ?_
    refine z_put S in_lay_X7 tyX7_ok nmX7 hK hP hD hS rfl 0 rfl 6 (by decide) fl_X7_132 rfl rfl rfl rfl (Nat.le_of_ble_eq_true rfl) dX7_digit_55 (fun H locs hP hS => ?_)
    have hP : va_P D vwCl [(o 0, .inr (7, [f0, f1, f2, f3, .ref (o 3), .int (nI n), .int (nI i), .int (zb false), f8, f9, f10])), (o 3, .inl (ca 0, 60, .inl (fun k => nI (g k))))] H := hP
    have hD := zDto (ws := [(o 0, .inr (7, [f0, f1, f2, f3, .ref (o 3), .int (nI n), .int (nI i), .int (zb false), f8, f9, f10])), (o 3, .inl (ca 0, 60, .inl (fun k => nI (g k))))]) hN hA rfl
    refine lv_iload_n hx hb dX7_digit_58 rfl (lv_at hl 0 rfl) ?_
    have hz : rDt g n i wl v = ((nI (zSg g n i)) - 48, (i, false)) := by simp [rDt, rDw, c_5_1]
    exact zw_i hx hb hr hlk hP hS ⟨by rw [hz] <;> rfl, by rw [hz] <;> rfl⟩ dX7_digit_59
  · refine lv_aload_n hx hb dX7_digit_8 rfl (lv_at hl 0 rfl) ?_
    refine zcr (As := []) (rest := [.ref (o 0)]) (q0 := 0) S (c_X7_sign l D ca o f0 f1 f2 f3 (.int (zb wl)) f8 f9 f10 n i g (by first | assumption | omega) (by first | assumption | omega) (by first | assumption | omega) ) ml_X7_139 zy_X7_sign im_X7_sign se_X7_sign ⟨Nat.le_of_ble_eq_true rfl, Nat.le_of_ble_eq_true rfl⟩ hK hP [0, 1] rfl rfl rfl rfl rfl hl.1 rfl (Nat.le_of_ble_eq_true rfl) ⟨Nat.zero_le _, Nat.zero_le _⟩ dX7_digit_9 ?_
    have hsg : zSg g n i < 128 := zSg_lt (by assumption)
    refine lv_bipush (v := 48) hx hb dX7_digit_12 (by decide) ?_
    refine lv_iload_n hx hb dX7_digit_14 rfl (lv_at hl 1 rfl) ?_
    refine zcrS (As := [.int (nI (zSg g n i)), .int 48, .int v]) (rest := [.ref (o 0)]) S (c_X7_in l D ca (nI (zSg g n i)) 48 v) ml_X7_26 zy_X7_in st_X7_in ⟨Nat.le_of_ble_eq_true rfl, Nat.le_of_ble_eq_true rfl⟩ hK hP [] rfl rfl hl.1 rfl (Nat.le_of_ble_eq_true rfl) ⟨Nat.zero_le _, Nat.zero_le _⟩ dX7_digit_15 ?_
    refine zz_eq (tgt := 25) hx hb dX7_digit_18 (by decide) (fun c_18_2 => ?_) (fun c_18_2 => ?_)
    · refine lv_iconst (v := 0) hx hb dX7_digit_25 (by decide) ?_
      have hzi : i < i + 1 := Nat.lt_succ_self i
      refine z_put S in_lay_X7 tyX7_ok nmX7 hK hP hD hS rfl 0 rfl 7 (by decide) fl_X7_135 rfl rfl rfl rfl (Nat.le_of_ble_eq_true rfl) dX7_digit_26 (fun H locs hP hS => ?_)
      have hP : va_P D vwCl [(o 0, .inr (7, [f0, f1, f2, f3, .ref (o 3), .int (nI n), .int (nI i), .int (zb false), f8, f9, f10])), (o 3, .inl (ca 0, 60, .inl (fun k => nI (g k))))] H := hP
      have hD := zDto (ws := [(o 0, .inr (7, [f0, f1, f2, f3, .ref (o 3), .int (nI n), .int (nI i), .int (zb false), f8, f9, f10])), (o 3, .inl (ca 0, 60, .inl (fun k => nI (g k))))]) hN hA rfl
      refine lv_aload_n hx hb dX7_digit_29 rfl (lv_at hl 0 rfl) ?_
      refine zcr (As := []) (rest := []) (q0 := 0) S (c_X7_sign l D ca o f0 f1 f2 f3 (.int (zb false)) f8 f9 f10 n i g (by first | assumption | omega) (by first | assumption | omega) (by first | assumption | omega) ) ml_X7_139 zy_X7_sign im_X7_sign se_X7_sign ⟨Nat.le_of_ble_eq_true rfl, Nat.le_of_ble_eq_true rfl⟩ hK hP [0, 1] rfl rfl rfl rfl rfl hl.1 rfl (Nat.le_of_ble_eq_true rfl) ⟨Nat.zero_le _, Nat.zero_le _⟩ dX7_digit_30 ?_
      have hsg : zSg g n i < 128 := zSg_lt (by assumption)
      refine lv_bipush (v := 48) hx hb dX7_digit_33 (by decide) ?_
      refine lv_isub hx hb dX7_digit_35 ?_
      refine lv_istore_n (lv' := [(2, .int ((nI (zSg g n i)) - 48)), (0, .ref (o 0)), (1, .int v)]) hx hb dX7_digit_36 rfl hl (by decide) rfl (fun ls hl => ?_)
      refine lv_aload_n hx hb dX7_digit_37 rfl (lv_at hl 1 rfl) ?_
      refine lv_dup hx hb dX7_digit_38 rfl ?_
      refine z_get S in_lay_X7 hK hP rfl 0 rfl 6 (by decide) fl_X7_132 rfl rfl dX7_digit_39 ?_
      refine lv_aload_n hx hb dX7_digit_42 rfl (lv_at hl 1 rfl) ?_
      refine z_get S in_lay_X7 hK hP rfl 0 rfl 7 (by decide) fl_X7_135 rfl rfl dX7_digit_43 ?_
      refine lv_if_eq (tgt := 53) hx hb dX7_digit_46 (by decide) (fun _ => ?_) (fun h => absurd (by decide) h)
      refine lv_iconst (v := 0) hx hb dX7_digit_53 (by decide) ?_
      refine zn_add hx hb (x := i) (y := 0) (z := i) (by omega) dX7_digit_54 ?_
      refine z_put S in_lay_X7 tyX7_ok nmX7 hK hP hD hS rfl 0 rfl 6 (by decide) fl_X7_132 rfl rfl rfl rfl (Nat.le_of_ble_eq_true rfl) dX7_digit_55 (fun H locs hP hS => ?_)
      have hP : va_P D vwCl [(o 0, .inr (7, [f0, f1, f2, f3, .ref (o 3), .int (nI n), .int (nI i), .int (zb false), f8, f9, f10])), (o 3, .inl (ca 0, 60, .inl (fun k => nI (g k))))] H := hP
      have hD := zDto (ws := [(o 0, .inr (7, [f0, f1, f2, f3, .ref (o 3), .int (nI n), .int (nI i), .int (zb false), f8, f9, f10])), (o 3, .inl (ca 0, 60, .inl (fun k => nI (g k))))]) hN hA rfl
      refine lv_iload_n hx hb dX7_digit_58 rfl (lv_at hl 0 rfl) ?_
      have hz : rDt g n i wl v = ((nI (zSg g n i)) - 48, (i, false)) := by simp [rDt, rDw, c_5_1, c_18_2]
      exact zw_i hx hb hr hlk hP hS ⟨by rw [hz] <;> rfl, by rw [hz] <;> rfl⟩ dX7_digit_59
    · refine lv_iconst (v := 1) hx hb dX7_digit_21 (by decide) ?_
      refine lv_goto (tgt := 26) hx hb dX7_digit_22 (by decide) ?_
      have hzi : i < i + 1 := Nat.lt_succ_self i
      refine z_put S in_lay_X7 tyX7_ok nmX7 hK hP hD hS rfl 0 rfl 7 (by decide) fl_X7_135 rfl rfl rfl rfl (Nat.le_of_ble_eq_true rfl) dX7_digit_26 (fun H locs hP hS => ?_)
      have hP : va_P D vwCl [(o 0, .inr (7, [f0, f1, f2, f3, .ref (o 3), .int (nI n), .int (nI i), .int (zb true), f8, f9, f10])), (o 3, .inl (ca 0, 60, .inl (fun k => nI (g k))))] H := hP
      have hD := zDto (ws := [(o 0, .inr (7, [f0, f1, f2, f3, .ref (o 3), .int (nI n), .int (nI i), .int (zb true), f8, f9, f10])), (o 3, .inl (ca 0, 60, .inl (fun k => nI (g k))))]) hN hA rfl
      refine lv_aload_n hx hb dX7_digit_29 rfl (lv_at hl 0 rfl) ?_
      refine zcr (As := []) (rest := []) (q0 := 0) S (c_X7_sign l D ca o f0 f1 f2 f3 (.int (zb true)) f8 f9 f10 n i g (by first | assumption | omega) (by first | assumption | omega) (by first | assumption | omega) ) ml_X7_139 zy_X7_sign im_X7_sign se_X7_sign ⟨Nat.le_of_ble_eq_true rfl, Nat.le_of_ble_eq_true rfl⟩ hK hP [0, 1] rfl rfl rfl rfl rfl hl.1 rfl (Nat.le_of_ble_eq_true rfl) ⟨Nat.zero_le _, Nat.zero_le _⟩ dX7_digit_30 ?_
      have hsg : zSg g n i < 128 := zSg_lt (by assumption)
      refine lv_bipush (v := 48) hx hb dX7_digit_33 (by decide) ?_
      refine lv_isub hx hb dX7_digit_35 ?_
      refine lv_istore_n (lv' := [(2, .int ((nI (zSg g n i)) - 48)), (0, .ref (o 0)), (1, .int v)]) hx hb dX7_digit_36 rfl hl (by decide) rfl (fun ls hl => ?_)
      refine lv_aload_n hx hb dX7_digit_37 rfl (lv_at hl 1 rfl) ?_
      refine lv_dup hx hb dX7_digit_38 rfl ?_
      refine z_get S in_lay_X7 hK hP rfl 0 rfl 6 (by decide) fl_X7_132 rfl rfl dX7_digit_39 ?_
      refine lv_aload_n hx hb dX7_digit_42 rfl (lv_at hl 1 rfl) ?_
      refine z_get S in_lay_X7 hK hP rfl 0 rfl 7 (by decide) fl_X7_135 rfl rfl dX7_digit_43 ?_
      refine lv_if_eq (tgt := 53) hx hb dX7_digit_46 (by decide) (fun h => absurd h (by decide)) (fun _ => ?_)
      refine lv_iconst (v := 1) hx hb dX7_digit_49 (by decide) ?_
      refine lv_goto (tgt := 54) hx hb dX7_digit_50 (by decide) ?_
      refine zn_add hx hb (x := i) (y := 1) (z := i + 1) (by omega) dX7_digit_54 ?_
      refine z_put S in_lay_X7 tyX7_ok nmX7 hK hP hD hS rfl 0 rfl 6 (by decide) fl_X7_132 rfl rfl rfl rfl (Nat.le_of_ble_eq_true rfl) dX7_digit_55 (fun H locs hP hS => ?_)
      have hP : va_P D vwCl [(o 0, .inr (7, [f0, f1, f2, f3, .ref (o 3), .int (nI n), .int (nI (i + 1)), .int (zb true), f8, f9, f10])), (o 3, .inl (ca 0, 60, .inl (fun k => nI (g k))))] H := hP
      have hD := zDto (ws := [(o 0, .inr (7, [f0, f1, f2, f3, .ref (o 3), .int (nI n), .int (nI (i + 1)), .int (zb true), f8, f9, f10])), (o 3, .inl (ca 0, 60, .inl (fun k => nI (g k))))]) hN hA rfl
      refine lv_iload_n hx hb dX7_digit_58 rfl (lv_at hl 0 rfl) ?_
      have hz : rDt g n i wl v = ((nI (zSg g n i)) - 48, ((i + 1), true)) := by simp [rDt, rDw, c_5_1, c_18_2]
      exact zw_i hx hb hr hlk hP hS ⟨by rw [hz] <;> rfl, by rw [hz] <;> rfl⟩ dX7_digit_59
set_option maxHeartbeats 4000000 in
set_option maxRecDepth 100000 in
theorem c_X7_placeRead (l : Launch) (D : va_G) (ca : Nat → ClassId) (o : Nat → Nat) (f0 f1 f2 f3 f8 f9 f10 : Value) (n : Nat) (i : Nat) (wl : Bool) (g : Nat → Nat) (h0 : n ≤ 60) (h1 : ∀ k, g k < 128) (h2 : i ≤ n)  (hN : [o 0, o 3].Nodup) : zMw l yX7_placeRead cX7_placeRead 2 (some .int) 2 44 D ca [(o 0, .inr (7, [f0, f1, f2, f3, .ref (o 3), .int (nI n), .int (nI i), .int (zb wl), f8, f9, f10])), (o 3, .inl (ca 0, 60, .inl (fun k => nI (g k))))] ([(o 0, .inr (7, [f0, f1, f2, f3, .ref (o 3), .int (nI n), .int (nI ((rPr g n i wl).2.1)), .int (zb ((rPr g n i wl).2.2)), f8, f9, f10])), (o 3, .inl (ca 0, 60, .inl (fun k => nI (g k))))]) [.ref (o 0)] (some (.int ((rPr g n i wl).1))) := by
  refine zMw_of (own := RX7) (by decide) rfl (Nat.le_of_ble_eq_true rfl) ?_
  intro p e s m args below meth c ls S hr hlk hP hK hl hS
  have hP : va_P D vwCl [(o 0, .inr (7, [f0, f1, f2, f3, .ref (o 3), .int (nI n), .int (nI i), .int (zb wl), f8, f9, f10])), (o 3, .inl (ca 0, 60, .inl (fun k => nI (g k))))] s.heap := hP
  have hS : va_S (zA [o 0, o 3]) s.heap s.heap [] := hS
  have hA : ∀ q ∈ [o 0, o 3], zA [o 0, o 3] q := fun _ h => h
  have hD := zDto (ws := [(o 0, .inr (7, [f0, f1, f2, f3, .ref (o 3), .int (nI n), .int (nI i), .int (zb wl), f8, f9, f10])), (o 3, .inl (ca 0, 60, .inl (fun k => nI (g k))))]) hN hA rfl
  have hx := S.1
  have hb := S.2.1
  have hl : lv_has ls 2 [(0, .ref (o 0))] := hl
  refine lv_aload_n hx hb dX7_placeRead_0 rfl (lv_at hl 0 rfl) ?_
  refine lv_bipush (v := 57) hx hb dX7_placeRead_1 (by decide) ?_
  refine zcw (As := [.int 57]) (rest := []) (st1 := [.int ((rDt g n i wl 57).1)]) (q0 := 0) (lw := [o 0, o 3]) S (c_X7_digit l D ca o f0 f1 f2 f3 f8 f9 f10 n i wl g (by first | assumption | omega) (by first | assumption | omega) (by first | assumption | omega) 57 (znd_pick hN [0, 1] rfl rfl)) ml_X7_142 zy_X7_digit im_X7_digit se_X7_digit ⟨Nat.le_of_ble_eq_true rfl, Nat.le_of_ble_eq_true rfl⟩ hK hP hD hS [0, 1] rfl rfl rfl rfl rfl rfl rfl hl.1 rfl rfl (Nat.le_of_ble_eq_true rfl) ⟨Nat.zero_le _, Nat.zero_le _⟩ dX7_placeRead_3 (fun H locs hP hS => ?_)
  have hP : va_P D vwCl [(o 0, .inr (7, [f0, f1, f2, f3, .ref (o 3), .int (nI n), .int (nI ((rDt g n i wl 57).2.1)), .int (zb ((rDt g n i wl 57).2.2)), f8, f9, f10])), (o 3, .inl (ca 0, 60, .inl (fun k => nI (g k))))] H := hP
  have hD := zDto (ws := [(o 0, .inr (7, [f0, f1, f2, f3, .ref (o 3), .int (nI n), .int (nI ((rDt g n i wl 57).2.1)), .int (zb ((rDt g n i wl 57).2.2)), f8, f9, f10])), (o 3, .inl (ca 0, 60, .inl (fun k => nI (g k))))]) hN hA rfl
  have hzle := rDt_le (g := g) (n := n) (i := i) (w := wl) (e := 57) (by omega)
  refine lv_istore_n (lv' := [(1, .int ((rDt g n i wl 57).1)), (0, .ref (o 0))]) hx hb dX7_placeRead_6 rfl hl (by decide) rfl (fun ls hl => ?_)
  refine lv_aload_n hx hb dX7_placeRead_7 rfl (lv_at hl 1 rfl) ?_
  refine z_get S in_lay_X7 hK hP rfl 0 rfl 7 (by decide) fl_X7_135 rfl rfl dX7_placeRead_8 ?_
  refine zz_eq (tgt := 61) hx hb dX7_placeRead_11 (by decide) (fun c_11_1 => ?_) (fun c_11_1 => ?_)
  · refine lv_iload_n hx hb dX7_placeRead_61 rfl (lv_at hl 0 rfl) ?_
    have hz : rPr g n i wl = ((rDt g n i wl 57).1, (((rDt g n i wl 57).2.1), ((rDt g n i wl 57).2.2))) := by (conv => lhs; simp only [rPr, c_11_1, if_true, if_false, Bool.false_eq_true]) <;> first | rfl | simp [c_11_1]
    exact zw_i hx hb hr hlk hP hS ⟨by rw [hz] <;> rfl, by rw [hz] <;> rfl⟩ dX7_placeRead_62
  · refine lv_iload_n hx hb dX7_placeRead_14 rfl (lv_at hl 0 rfl) ?_
    refine lv_if_le (tgt := 61) hx hb dX7_placeRead_15 (by decide) (fun c_15_2 => ?_) (fun c_15_2 => ?_)
    · refine lv_iload_n hx hb dX7_placeRead_61 rfl (lv_at hl 0 rfl) ?_
      have hz : rPr g n i wl = ((rDt g n i wl 57).1, (((rDt g n i wl 57).2.1), ((rDt g n i wl 57).2.2))) := by (conv => lhs; simp only [rPr, c_11_1, c_15_2, if_true, if_false, Bool.false_eq_true]) <;> first | rfl | simp [c_11_1, c_15_2]
      exact zw_i hx hb hr hlk hP hS ⟨by rw [hz] <;> rfl, by rw [hz] <;> rfl⟩ dX7_placeRead_62
    · refine lv_aload_n hx hb dX7_placeRead_18 rfl (lv_at hl 1 rfl) ?_
      refine zcr (As := []) (rest := []) (q0 := 0) S (c_X7_sign l D ca o f0 f1 f2 f3 (.int (zb ((rDt g n i wl 57).2.2))) f8 f9 f10 n ((rDt g n i wl 57).2.1) g (by first | assumption | omega) (by first | assumption | omega) (by first | assumption | omega) ) ml_X7_139 zy_X7_sign im_X7_sign se_X7_sign ⟨Nat.le_of_ble_eq_true rfl, Nat.le_of_ble_eq_true rfl⟩ hK hP [0, 1] rfl rfl rfl rfl rfl hl.1 rfl (Nat.le_of_ble_eq_true rfl) ⟨Nat.zero_le _, Nat.zero_le _⟩ dX7_placeRead_19 ?_
      have hsg : zSg g n ((rDt g n i wl 57).2.1) < 128 := zSg_lt (by assumption)
      refine lv_bipush (v := 48) hx hb dX7_placeRead_22 (by decide) ?_
      refine lv_bipush (v := 57) hx hb dX7_placeRead_24 (by decide) ?_
      refine zcrS (As := [.int (nI (zSg g n ((rDt g n i wl 57).2.1))), .int 48, .int 57]) (rest := []) S (c_X7_in l D ca (nI (zSg g n ((rDt g n i wl 57).2.1))) 48 57) ml_X7_26 zy_X7_in st_X7_in ⟨Nat.le_of_ble_eq_true rfl, Nat.le_of_ble_eq_true rfl⟩ hK hP [] rfl rfl hl.1 rfl (Nat.le_of_ble_eq_true rfl) ⟨Nat.zero_le _, Nat.zero_le _⟩ dX7_placeRead_26 ?_
      refine zz_eq (tgt := 61) hx hb dX7_placeRead_29 (by decide) (fun c_29_3 => ?_) (fun c_29_3 => ?_)
      · refine lv_iload_n hx hb dX7_placeRead_61 rfl (lv_at hl 0 rfl) ?_
        have hz : rPr g n i wl = ((rDt g n i wl 57).1, (((rDt g n i wl 57).2.1), ((rDt g n i wl 57).2.2))) := by (conv => lhs; simp only [rPr, c_11_1, c_15_2, c_29_3, if_true, if_false, Bool.false_eq_true]) <;> first | rfl | simp [c_11_1, c_15_2, c_29_3]
        exact zw_i hx hb hr hlk hP hS ⟨by rw [hz] <;> rfl, by rw [hz] <;> rfl⟩ dX7_placeRead_62
      · refine lv_bipush (v := 10) hx hb dX7_placeRead_32 (by decide) ?_
        refine lv_iload_n hx hb dX7_placeRead_34 rfl (lv_at hl 0 rfl) ?_
        refine lv_imul hx hb dX7_placeRead_35 ?_
        refine lv_aload_n hx hb dX7_placeRead_36 rfl (lv_at hl 1 rfl) ?_
        refine zcr (As := []) (rest := [.int (10 * ((rDt g n i wl 57).1))]) (q0 := 0) S (c_X7_sign l D ca o f0 f1 f2 f3 (.int (zb ((rDt g n i wl 57).2.2))) f8 f9 f10 n ((rDt g n i wl 57).2.1) g (by first | assumption | omega) (by first | assumption | omega) (by first | assumption | omega) ) ml_X7_139 zy_X7_sign im_X7_sign se_X7_sign ⟨Nat.le_of_ble_eq_true rfl, Nat.le_of_ble_eq_true rfl⟩ hK hP [0, 1] rfl rfl rfl rfl rfl hl.1 rfl (Nat.le_of_ble_eq_true rfl) ⟨Nat.zero_le _, Nat.zero_le _⟩ dX7_placeRead_37 ?_
        have hsg : zSg g n ((rDt g n i wl 57).2.1) < 128 := zSg_lt (by assumption)
        refine lv_iadd hx hb dX7_placeRead_40 ?_
        refine lv_bipush (v := 48) hx hb dX7_placeRead_41 (by decide) ?_
        refine lv_isub hx hb dX7_placeRead_43 ?_
        refine lv_bipush (v := 24) hx hb dX7_placeRead_44 (by decide) ?_
        refine lv_icmp_ge (tgt := 61) hx hb dX7_placeRead_46 (by decide) (fun c_46_4 => ?_) (fun c_46_4 => ?_)
        · refine lv_iload_n hx hb dX7_placeRead_61 rfl (lv_at hl 0 rfl) ?_
          have hz : rPr g n i wl = ((rDt g n i wl 57).1, (((rDt g n i wl 57).2.1), ((rDt g n i wl 57).2.2))) := by (conv => lhs; simp only [rPr, c_11_1, c_15_2, c_29_3, c_46_4, if_true, if_false, Bool.false_eq_true]) <;> first | rfl | simp [c_11_1, c_15_2, c_29_3, c_46_4]
          exact zw_i hx hb hr hlk hP hS ⟨by rw [hz] <;> rfl, by rw [hz] <;> rfl⟩ dX7_placeRead_62
        · refine lv_bipush (v := 10) hx hb dX7_placeRead_49 (by decide) ?_
          refine lv_iload_n hx hb dX7_placeRead_51 rfl (lv_at hl 0 rfl) ?_
          refine lv_imul hx hb dX7_placeRead_52 ?_
          refine lv_aload_n hx hb dX7_placeRead_53 rfl (lv_at hl 1 rfl) ?_
          refine lv_bipush (v := 57) hx hb dX7_placeRead_54 (by decide) ?_
          refine zcw (As := [.int 57]) (rest := [.int (10 * ((rDt g n i wl 57).1))]) (st1 := [.int ((rDt g n ((rDt g n i wl 57).2.1) ((rDt g n i wl 57).2.2) 57).1), .int (10 * ((rDt g n i wl 57).1))]) (q0 := 0) (lw := [o 0, o 3]) S (c_X7_digit l D ca o f0 f1 f2 f3 f8 f9 f10 n ((rDt g n i wl 57).2.1) ((rDt g n i wl 57).2.2) g (by first | assumption | omega) (by first | assumption | omega) (by first | assumption | omega) 57 (znd_pick hN [0, 1] rfl rfl)) ml_X7_142 zy_X7_digit im_X7_digit se_X7_digit ⟨Nat.le_of_ble_eq_true rfl, Nat.le_of_ble_eq_true rfl⟩ hK hP hD hS [0, 1] rfl rfl rfl rfl rfl rfl rfl hl.1 rfl rfl (Nat.le_of_ble_eq_true rfl) ⟨Nat.zero_le _, Nat.zero_le _⟩ dX7_placeRead_56 (fun H locs hP hS => ?_)
          have hP : va_P D vwCl [(o 0, .inr (7, [f0, f1, f2, f3, .ref (o 3), .int (nI n), .int (nI ((rDt g n ((rDt g n i wl 57).2.1) ((rDt g n i wl 57).2.2) 57).2.1)), .int (zb ((rDt g n ((rDt g n i wl 57).2.1) ((rDt g n i wl 57).2.2) 57).2.2)), f8, f9, f10])), (o 3, .inl (ca 0, 60, .inl (fun k => nI (g k))))] H := hP
          have hD := zDto (ws := [(o 0, .inr (7, [f0, f1, f2, f3, .ref (o 3), .int (nI n), .int (nI ((rDt g n ((rDt g n i wl 57).2.1) ((rDt g n i wl 57).2.2) 57).2.1)), .int (zb ((rDt g n ((rDt g n i wl 57).2.1) ((rDt g n i wl 57).2.2) 57).2.2)), f8, f9, f10])), (o 3, .inl (ca 0, 60, .inl (fun k => nI (g k))))]) hN hA rfl
          have hzle := rDt_le (g := g) (n := n) (i := ((rDt g n i wl 57).2.1)) (w := ((rDt g n i wl 57).2.2)) (e := 57) (by omega)
          refine lv_iadd hx hb dX7_placeRead_59 ?_
          refine lv_istore_n (lv' := [(1, .int ((10 * ((rDt g n i wl 57).1)) + ((rDt g n ((rDt g n i wl 57).2.1) ((rDt g n i wl 57).2.2) 57).1))), (0, .ref (o 0))]) hx hb dX7_placeRead_60 rfl hl (by decide) rfl (fun ls hl => ?_)
          refine lv_iload_n hx hb dX7_placeRead_61 rfl (lv_at hl 0 rfl) ?_
          have hz : rPr g n i wl = ((10 * ((rDt g n i wl 57).1)) + ((rDt g n ((rDt g n i wl 57).2.1) ((rDt g n i wl 57).2.2) 57).1), (((rDt g n ((rDt g n i wl 57).2.1) ((rDt g n i wl 57).2.2) 57).2.1), ((rDt g n ((rDt g n i wl 57).2.1) ((rDt g n i wl 57).2.2) 57).2.2))) := by (conv => lhs; simp only [rPr, c_11_1, c_15_2, c_29_3, c_46_4, if_true, if_false, Bool.false_eq_true]) <;> first | rfl | simp [c_11_1, c_15_2, c_29_3, c_46_4]
          exact zw_i hx hb hr hlk hP hS ⟨by rw [hz] <;> rfl, by rw [hz] <;> rfl⟩ dX7_placeRead_62
set_option maxHeartbeats 4000000 in
set_option maxRecDepth 100000 in
theorem c_X7_readsChange (l : Launch) (D : va_G) (ca : Nat → ClassId) (o : Nat → Nat) (f0 f1 f2 f3 f10 : Value) (n : Nat) (i : Nat) (wl : Bool) (rm : Nat) (g : Nat → Nat) (rd : Nat → Int32) (h0 : n ≤ 60) (h1 : ∀ k, g k < 128) (h2 : i ≤ n) (h3 : rm ≤ 30)  (hN : [o 0, o 3, o 4].Nodup) : zMw l yX7_readsChange cX7_readsChange 4 none 3 65 D ca [(o 0, .inr (7, [f0, f1, f2, f3, .ref (o 3), .int (nI n), .int (nI i), .int (zb wl), .ref (o 4), .int (nI rm), f10])), (o 3, .inl (ca 0, 60, .inl (fun k => nI (g k)))), (o 4, .inl (ca 0, 93, .inl rd))] ([(o 0, .inr (7, [f0, f1, f2, f3, .ref (o 3), .int (nI n), .int (nI ((rRc g n i wl rd rm).1)), .int (zb ((rRc g n i wl rd rm).2.1)), .ref (o 4), .int (nI ((rRc g n i wl rd rm).2.2.2)), f10])), (o 3, .inl (ca 0, 60, .inl (fun k => nI (g k)))), (o 4, .inl (ca 0, 93, .inl ((rRc g n i wl rd rm).2.2.1)))]) [.ref (o 0)] none := by
  refine zMw_of (own := RX7) (by decide) rfl (Nat.le_of_ble_eq_true rfl) ?_
  intro p e s m args below meth c ls S hr hlk hP hK hl hS
  have hP : va_P D vwCl [(o 0, .inr (7, [f0, f1, f2, f3, .ref (o 3), .int (nI n), .int (nI i), .int (zb wl), .ref (o 4), .int (nI rm), f10])), (o 3, .inl (ca 0, 60, .inl (fun k => nI (g k)))), (o 4, .inl (ca 0, 93, .inl rd))] s.heap := hP
  have hS : va_S (zA [o 0, o 3, o 4]) s.heap s.heap [] := hS
  have hA : ∀ q ∈ [o 0, o 3, o 4], zA [o 0, o 3, o 4] q := fun _ h => h
  have hD := zDto (ws := [(o 0, .inr (7, [f0, f1, f2, f3, .ref (o 3), .int (nI n), .int (nI i), .int (zb wl), .ref (o 4), .int (nI rm), f10])), (o 3, .inl (ca 0, 60, .inl (fun k => nI (g k)))), (o 4, .inl (ca 0, 93, .inl rd))]) hN hA rfl
  have hx := S.1
  have hb := S.2.1
  have hl : lv_has ls 4 [(0, .ref (o 0))] := hl
  refine lv_iconst (v := 3) hx hb dX7_readsChange_0 (by decide) ?_
  refine lv_aload_n hx hb dX7_readsChange_1 rfl (lv_at hl 0 rfl) ?_
  refine z_get S in_lay_X7 hK hP rfl 0 rfl 9 (by decide) fl_X7_145 rfl rfl dX7_readsChange_2 ?_
  refine zn_mul hx hb (x := 3) (y := rm) (z := 3 * rm) (by first | rfl | omega) dX7_readsChange_5 ?_
  refine lv_istore_n (lv' := [(1, .int (nI (3 * rm))), (0, .ref (o 0))]) hx hb dX7_readsChange_6 rfl hl (by decide) rfl (fun ls hl => ?_)
  refine lv_aload_n hx hb dX7_readsChange_7 rfl (lv_at hl 1 rfl) ?_
  refine zcr (As := []) (rest := []) (q0 := 0) S (c_X7_sign l D ca o f0 f1 f2 f3 (.int (zb wl)) (.ref (o 4)) (.int (nI rm)) f10 n i g (by first | assumption | omega) (by first | assumption | omega) (by first | assumption | omega) ) ml_X7_139 zy_X7_sign im_X7_sign se_X7_sign ⟨Nat.le_of_ble_eq_true rfl, Nat.le_of_ble_eq_true rfl⟩ hK hP [0, 1] rfl rfl rfl rfl rfl hl.1 rfl (Nat.le_of_ble_eq_true rfl) ⟨Nat.zero_le _, Nat.zero_le _⟩ dX7_readsChange_8 ?_
  have hsg : zSg g n i < 128 := zSg_lt (by assumption)
  refine lv_istore_n (lv' := [(2, .int (nI (zSg g n i))), (1, .int (nI (3 * rm))), (0, .ref (o 0))]) hx hb dX7_readsChange_11 rfl hl (by decide) rfl (fun ls hl => ?_)
  refine lv_iload_n hx hb dX7_readsChange_12 rfl (lv_at hl 0 rfl) ?_
  refine lv_bipush (v := 43) hx hb dX7_readsChange_13 (by decide) ?_
  refine zn_eq hx hb (x := zSg g n i) (y := 43) (by omega) (by omega) (tgt := 30) dX7_readsChange_15 (by decide) (fun c_15_1 => ?_) (fun c_15_1 => ?_)
  · have hzi := zSg_in (g := g) (n := n) (i := i) (by omega)
    refine lv_iconst (v := 1) hx hb dX7_readsChange_30 (by decide) ?_
    refine lv_goto (tgt := 35) hx hb dX7_readsChange_31 (by decide) ?_
    refine lv_istore_n (lv' := [(3, .int 1), (2, .int (nI (zSg g n i))), (1, .int (nI (3 * rm))), (0, .ref (o 0))]) hx hb dX7_readsChange_35 rfl hl (by decide) rfl (fun ls hl => ?_)
    refine lv_aload_n hx hb dX7_readsChange_36 rfl (lv_at hl 3 rfl) ?_
    refine lv_dup hx hb dX7_readsChange_37 rfl ?_
    refine z_get S in_lay_X7 hK hP rfl 0 rfl 6 (by decide) fl_X7_132 rfl rfl dX7_readsChange_38 ?_
    refine lv_iload_n hx hb dX7_readsChange_41 rfl (lv_at hl 0 rfl) ?_
    refine lv_if_eq (tgt := 49) hx hb dX7_readsChange_42 (by decide) (fun h => absurd h (by decide)) (fun _ => ?_)
    refine lv_iconst (v := 1) hx hb dX7_readsChange_45 (by decide) ?_
    refine lv_goto (tgt := 50) hx hb dX7_readsChange_46 (by decide) ?_
    refine zn_add hx hb (x := i) (y := 1) (z := i + 1) (by omega) dX7_readsChange_50 ?_
    refine z_put S in_lay_X7 tyX7_ok nmX7 hK hP hD hS rfl 0 rfl 6 (by decide) fl_X7_132 rfl rfl rfl rfl (Nat.le_of_ble_eq_true rfl) dX7_readsChange_51 (fun H locs hP hS => ?_)
    have hP : va_P D vwCl [(o 0, .inr (7, [f0, f1, f2, f3, .ref (o 3), .int (nI n), .int (nI (i + 1)), .int (zb wl), .ref (o 4), .int (nI rm), f10])), (o 3, .inl (ca 0, 60, .inl (fun k => nI (g k)))), (o 4, .inl (ca 0, 93, .inl rd))] H := hP
    have hD := zDto (ws := [(o 0, .inr (7, [f0, f1, f2, f3, .ref (o 3), .int (nI n), .int (nI (i + 1)), .int (zb wl), .ref (o 4), .int (nI rm), f10])), (o 3, .inl (ca 0, 60, .inl (fun k => nI (g k)))), (o 4, .inl (ca 0, 93, .inl rd))]) hN hA rfl
    refine lv_aload_n hx hb dX7_readsChange_54 rfl (lv_at hl 3 rfl) ?_
    refine z_get S in_lay_X7 hK hP rfl 0 rfl 8 (by decide) fl_X7_19 rfl rfl dX7_readsChange_55 ?_
    refine lv_iload_n hx hb dX7_readsChange_58 rfl (lv_at hl 2 rfl) ?_
    refine lv_iload_n hx hb dX7_readsChange_59 rfl (lv_at hl 0 rfl) ?_
    refine lv_if_eq (tgt := 67) hx hb dX7_readsChange_60 (by decide) (fun h => absurd h (by decide)) (fun _ => ?_)
    refine lv_iload_n hx hb dX7_readsChange_63 rfl (lv_at hl 1 rfl) ?_
    refine lv_goto (tgt := 69) hx hb dX7_readsChange_64 (by decide) ?_
    refine z_iast S hK hP hD hS 2 rfl (j := 3 * rm) (by omega) (by decide) dX7_readsChange_69 (fun H locs hP hS => ?_)
    have hP : va_P D vwCl [(o 0, .inr (7, [f0, f1, f2, f3, .ref (o 3), .int (nI n), .int (nI (i + 1)), .int (zb wl), .ref (o 4), .int (nI rm), f10])), (o 3, .inl (ca 0, 60, .inl (fun k => nI (g k)))), (o 4, .inl (ca 0, 93, .inl (upd rd (3 * rm) (nI (zSg g n i)))))] H := hP
    have hD := zDto (ws := [(o 0, .inr (7, [f0, f1, f2, f3, .ref (o 3), .int (nI n), .int (nI (i + 1)), .int (zb wl), .ref (o 4), .int (nI rm), f10])), (o 3, .inl (ca 0, 60, .inl (fun k => nI (g k)))), (o 4, .inl (ca 0, 93, .inl (upd rd (3 * rm) (nI (zSg g n i)))))]) hN hA rfl
    refine lv_aload_n hx hb dX7_readsChange_70 rfl (lv_at hl 3 rfl) ?_
    refine z_get S in_lay_X7 hK hP rfl 0 rfl 8 (by decide) fl_X7_19 rfl rfl dX7_readsChange_71 ?_
    refine lv_iload_n hx hb dX7_readsChange_74 rfl (lv_at hl 2 rfl) ?_
    refine lv_iconst (v := 1) hx hb dX7_readsChange_75 (by decide) ?_
    refine zn_add hx hb (x := 3 * rm) (y := 1) (z := (3 * rm) + 1) (by omega) dX7_readsChange_76 ?_
    refine lv_iload_n hx hb dX7_readsChange_77 rfl (lv_at hl 1 rfl) ?_
    refine lv_bipush (v := 43) hx hb dX7_readsChange_78 (by decide) ?_
    refine zn_ne hx hb (x := zSg g n i) (y := 43) (by omega) (by omega) (tgt := 87) dX7_readsChange_80 (by decide) (fun h => False.elim (by omega)) (fun c_80_2 => ?_)
    refine lv_iconst (v := 0) hx hb dX7_readsChange_83 (by decide) ?_
    refine lv_goto (tgt := 106) hx hb dX7_readsChange_84 (by decide) ?_
    refine z_iast S hK hP hD hS 2 rfl (j := (3 * rm) + 1) (by omega) (by decide) dX7_readsChange_106 (fun H locs hP hS => ?_)
    have hP : va_P D vwCl [(o 0, .inr (7, [f0, f1, f2, f3, .ref (o 3), .int (nI n), .int (nI (i + 1)), .int (zb wl), .ref (o 4), .int (nI rm), f10])), (o 3, .inl (ca 0, 60, .inl (fun k => nI (g k)))), (o 4, .inl (ca 0, 93, .inl (upd (upd rd (3 * rm) (nI (zSg g n i))) ((3 * rm) + 1) 0)))] H := hP
    have hD := zDto (ws := [(o 0, .inr (7, [f0, f1, f2, f3, .ref (o 3), .int (nI n), .int (nI (i + 1)), .int (zb wl), .ref (o 4), .int (nI rm), f10])), (o 3, .inl (ca 0, 60, .inl (fun k => nI (g k)))), (o 4, .inl (ca 0, 93, .inl (upd (upd rd (3 * rm) (nI (zSg g n i))) ((3 * rm) + 1) 0)))]) hN hA rfl
    refine lv_iload_n hx hb dX7_readsChange_107 rfl (lv_at hl 0 rfl) ?_
    refine lv_if_ne (tgt := 157) hx hb dX7_readsChange_108 (by decide) (fun _ => ?_) (fun h => absurd h (by decide))
    refine lv_aload_n hx hb dX7_readsChange_157 rfl (lv_at hl 3 rfl) ?_
    refine z_get S in_lay_X7 hK hP rfl 0 rfl 8 (by decide) fl_X7_19 rfl rfl dX7_readsChange_158 ?_
    refine lv_iload_n hx hb dX7_readsChange_161 rfl (lv_at hl 2 rfl) ?_
    refine lv_iconst (v := 2) hx hb dX7_readsChange_162 (by decide) ?_
    refine zn_add hx hb (x := 3 * rm) (y := 2) (z := (3 * rm) + 2) (by omega) dX7_readsChange_163 ?_
    refine lv_iload_n hx hb dX7_readsChange_164 rfl (lv_at hl 1 rfl) ?_
    refine lv_bipush (v := 45) hx hb dX7_readsChange_165 (by decide) ?_
    refine zn_eq hx hb (x := zSg g n i) (y := 45) (by omega) (by omega) (tgt := 176) dX7_readsChange_167 (by decide) (fun h => False.elim (by omega)) (fun c_167_3 => ?_)
    refine lv_iload_n hx hb dX7_readsChange_170 rfl (lv_at hl 1 rfl) ?_
    refine lv_bipush (v := 126) hx hb dX7_readsChange_171 (by decide) ?_
    refine zn_ne hx hb (x := zSg g n i) (y := 126) (by omega) (by omega) (tgt := 180) dX7_readsChange_173 (by decide) (fun c_173_4 => ?_) (fun h => False.elim (by omega))
    refine lv_aload_n hx hb dX7_readsChange_180 rfl (lv_at hl 3 rfl) ?_
    refine lv_bipush (v := 57) hx hb dX7_readsChange_181 (by decide) ?_
    refine zcw (As := [.int 57]) (rest := [.int (nI ((3 * rm) + 2)), .ref (o 4)]) (st1 := [.int ((rDt g n (i + 1) wl 57).1), .int (nI ((3 * rm) + 2)), .ref (o 4)]) (q0 := 0) (lw := [o 0, o 3]) S (c_X7_digit l D ca o f0 f1 f2 f3 (.ref (o 4)) (.int (nI rm)) f10 n (i + 1) wl g (by first | assumption | omega) (by first | assumption | omega) (by first | assumption | omega) 57 (znd_pick hN [0, 1] rfl rfl)) ml_X7_142 zy_X7_digit im_X7_digit se_X7_digit ⟨Nat.le_of_ble_eq_true rfl, Nat.le_of_ble_eq_true rfl⟩ hK hP hD hS [0, 1] rfl rfl rfl rfl rfl rfl rfl hl.1 rfl rfl (Nat.le_of_ble_eq_true rfl) ⟨Nat.zero_le _, Nat.zero_le _⟩ dX7_readsChange_183 (fun H locs hP hS => ?_)
    have hP : va_P D vwCl [(o 0, .inr (7, [f0, f1, f2, f3, .ref (o 3), .int (nI n), .int (nI ((rDt g n (i + 1) wl 57).2.1)), .int (zb ((rDt g n (i + 1) wl 57).2.2)), .ref (o 4), .int (nI rm), f10])), (o 3, .inl (ca 0, 60, .inl (fun k => nI (g k)))), (o 4, .inl (ca 0, 93, .inl (upd (upd rd (3 * rm) (nI (zSg g n i))) ((3 * rm) + 1) 0)))] H := hP
    have hD := zDto (ws := [(o 0, .inr (7, [f0, f1, f2, f3, .ref (o 3), .int (nI n), .int (nI ((rDt g n (i + 1) wl 57).2.1)), .int (zb ((rDt g n (i + 1) wl 57).2.2)), .ref (o 4), .int (nI rm), f10])), (o 3, .inl (ca 0, 60, .inl (fun k => nI (g k)))), (o 4, .inl (ca 0, 93, .inl (upd (upd rd (3 * rm) (nI (zSg g n i))) ((3 * rm) + 1) 0)))]) hN hA rfl
    have hzle := rDt_le (g := g) (n := n) (i := (i + 1)) (w := wl) (e := 57) (by omega)
    refine z_iast S hK hP hD hS 2 rfl (j := (3 * rm) + 2) (by omega) (by decide) dX7_readsChange_186 (fun H locs hP hS => ?_)
    have hP : va_P D vwCl [(o 0, .inr (7, [f0, f1, f2, f3, .ref (o 3), .int (nI n), .int (nI ((rDt g n (i + 1) wl 57).2.1)), .int (zb ((rDt g n (i + 1) wl 57).2.2)), .ref (o 4), .int (nI rm), f10])), (o 3, .inl (ca 0, 60, .inl (fun k => nI (g k)))), (o 4, .inl (ca 0, 93, .inl (upd (upd (upd rd (3 * rm) (nI (zSg g n i))) ((3 * rm) + 1) 0) ((3 * rm) + 2) ((rDt g n (i + 1) wl 57).1))))] H := hP
    have hD := zDto (ws := [(o 0, .inr (7, [f0, f1, f2, f3, .ref (o 3), .int (nI n), .int (nI ((rDt g n (i + 1) wl 57).2.1)), .int (zb ((rDt g n (i + 1) wl 57).2.2)), .ref (o 4), .int (nI rm), f10])), (o 3, .inl (ca 0, 60, .inl (fun k => nI (g k)))), (o 4, .inl (ca 0, 93, .inl (upd (upd (upd rd (3 * rm) (nI (zSg g n i))) ((3 * rm) + 1) 0) ((3 * rm) + 2) ((rDt g n (i + 1) wl 57).1))))]) hN hA rfl
    refine lv_aload_n hx hb dX7_readsChange_187 rfl (lv_at hl 3 rfl) ?_
    refine lv_dup hx hb dX7_readsChange_188 rfl ?_
    refine z_get S in_lay_X7 hK hP rfl 0 rfl 9 (by decide) fl_X7_145 rfl rfl dX7_readsChange_189 ?_
    refine lv_aload_n hx hb dX7_readsChange_192 rfl (lv_at hl 3 rfl) ?_
    refine z_get S in_lay_X7 hK hP rfl 0 rfl 7 (by decide) fl_X7_135 rfl rfl dX7_readsChange_193 ?_
    refine zz_eq (tgt := 203) hx hb dX7_readsChange_196 (by decide) (fun c_196_5 => ?_) (fun c_196_5 => ?_)
    · refine lv_iconst (v := 0) hx hb dX7_readsChange_203 (by decide) ?_
      refine zn_add hx hb (x := rm) (y := 0) (z := rm) (by omega) dX7_readsChange_204 ?_
      refine z_put S in_lay_X7 tyX7_ok nmX7 hK hP hD hS rfl 0 rfl 9 (by decide) fl_X7_145 rfl rfl rfl rfl (Nat.le_of_ble_eq_true rfl) dX7_readsChange_205 (fun H locs hP hS => ?_)
      have hP : va_P D vwCl [(o 0, .inr (7, [f0, f1, f2, f3, .ref (o 3), .int (nI n), .int (nI ((rDt g n (i + 1) wl 57).2.1)), .int (zb ((rDt g n (i + 1) wl 57).2.2)), .ref (o 4), .int (nI rm), f10])), (o 3, .inl (ca 0, 60, .inl (fun k => nI (g k)))), (o 4, .inl (ca 0, 93, .inl (upd (upd (upd rd (3 * rm) (nI (zSg g n i))) ((3 * rm) + 1) 0) ((3 * rm) + 2) ((rDt g n (i + 1) wl 57).1))))] H := hP
      have hD := zDto (ws := [(o 0, .inr (7, [f0, f1, f2, f3, .ref (o 3), .int (nI n), .int (nI ((rDt g n (i + 1) wl 57).2.1)), .int (zb ((rDt g n (i + 1) wl 57).2.2)), .ref (o 4), .int (nI rm), f10])), (o 3, .inl (ca 0, 60, .inl (fun k => nI (g k)))), (o 4, .inl (ca 0, 93, .inl (upd (upd (upd rd (3 * rm) (nI (zSg g n i))) ((3 * rm) + 1) 0) ((3 * rm) + 2) ((rDt g n (i + 1) wl 57).1))))]) hN hA rfl
      have hz : rRc g n i wl rd rm = (((rDt g n (i + 1) wl 57).2.1), ((rDt g n (i + 1) wl 57).2.2), (upd (upd (upd rd (3 * rm) (nI (zSg g n i))) ((3 * rm) + 1) 0) ((3 * rm) + 2) ((rDt g n (i + 1) wl 57).1)), rm) := by (conv => lhs; simp only [rRc, rEnd, c_15_1, c_80_2, c_167_3, c_173_4, c_196_5, if_true, if_false, Bool.false_eq_true, Bool.true_and, Bool.false_and, decide_true, decide_false]) <;> first | rfl | simp [c_15_1, c_80_2, c_167_3, c_173_4, c_196_5] | simp [rRc, rEnd, c_15_1, c_80_2, c_167_3, c_173_4, c_196_5]
      exact zw_v hx hb hr hlk hP hS (by rw [hz] <;> rfl) dX7_readsChange_208
    · refine lv_iconst (v := 1) hx hb dX7_readsChange_199 (by decide) ?_
      refine lv_goto (tgt := 204) hx hb dX7_readsChange_200 (by decide) ?_
      refine zn_add hx hb (x := rm) (y := 1) (z := rm + 1) (by omega) dX7_readsChange_204 ?_
      refine z_put S in_lay_X7 tyX7_ok nmX7 hK hP hD hS rfl 0 rfl 9 (by decide) fl_X7_145 rfl rfl rfl rfl (Nat.le_of_ble_eq_true rfl) dX7_readsChange_205 (fun H locs hP hS => ?_)
      have hP : va_P D vwCl [(o 0, .inr (7, [f0, f1, f2, f3, .ref (o 3), .int (nI n), .int (nI ((rDt g n (i + 1) wl 57).2.1)), .int (zb ((rDt g n (i + 1) wl 57).2.2)), .ref (o 4), .int (nI (rm + 1)), f10])), (o 3, .inl (ca 0, 60, .inl (fun k => nI (g k)))), (o 4, .inl (ca 0, 93, .inl (upd (upd (upd rd (3 * rm) (nI (zSg g n i))) ((3 * rm) + 1) 0) ((3 * rm) + 2) ((rDt g n (i + 1) wl 57).1))))] H := hP
      have hD := zDto (ws := [(o 0, .inr (7, [f0, f1, f2, f3, .ref (o 3), .int (nI n), .int (nI ((rDt g n (i + 1) wl 57).2.1)), .int (zb ((rDt g n (i + 1) wl 57).2.2)), .ref (o 4), .int (nI (rm + 1)), f10])), (o 3, .inl (ca 0, 60, .inl (fun k => nI (g k)))), (o 4, .inl (ca 0, 93, .inl (upd (upd (upd rd (3 * rm) (nI (zSg g n i))) ((3 * rm) + 1) 0) ((3 * rm) + 2) ((rDt g n (i + 1) wl 57).1))))]) hN hA rfl
      have hz : rRc g n i wl rd rm = (((rDt g n (i + 1) wl 57).2.1), ((rDt g n (i + 1) wl 57).2.2), (upd (upd (upd rd (3 * rm) (nI (zSg g n i))) ((3 * rm) + 1) 0) ((3 * rm) + 2) ((rDt g n (i + 1) wl 57).1)), (rm + 1)) := by (conv => lhs; simp only [rRc, rEnd, c_15_1, c_80_2, c_167_3, c_173_4, c_196_5, if_true, if_false, Bool.false_eq_true, Bool.true_and, Bool.false_and, decide_true, decide_false]) <;> first | rfl | simp [c_15_1, c_80_2, c_167_3, c_173_4, c_196_5] | simp [rRc, rEnd, c_15_1, c_80_2, c_167_3, c_173_4, c_196_5]
      exact zw_v hx hb hr hlk hP hS (by rw [hz] <;> rfl) dX7_readsChange_208
  · refine lv_iload_n hx hb dX7_readsChange_18 rfl (lv_at hl 0 rfl) ?_
    refine lv_bipush (v := 45) hx hb dX7_readsChange_19 (by decide) ?_
    refine zn_eq hx hb (x := zSg g n i) (y := 45) (by omega) (by omega) (tgt := 30) dX7_readsChange_21 (by decide) (fun c_21_6 => ?_) (fun c_21_6 => ?_)
    · have hzi := zSg_in (g := g) (n := n) (i := i) (by omega)
      refine lv_iconst (v := 1) hx hb dX7_readsChange_30 (by decide) ?_
      refine lv_goto (tgt := 35) hx hb dX7_readsChange_31 (by decide) ?_
      refine lv_istore_n (lv' := [(3, .int 1), (2, .int (nI (zSg g n i))), (1, .int (nI (3 * rm))), (0, .ref (o 0))]) hx hb dX7_readsChange_35 rfl hl (by decide) rfl (fun ls hl => ?_)
      refine lv_aload_n hx hb dX7_readsChange_36 rfl (lv_at hl 3 rfl) ?_
      refine lv_dup hx hb dX7_readsChange_37 rfl ?_
      refine z_get S in_lay_X7 hK hP rfl 0 rfl 6 (by decide) fl_X7_132 rfl rfl dX7_readsChange_38 ?_
      refine lv_iload_n hx hb dX7_readsChange_41 rfl (lv_at hl 0 rfl) ?_
      refine lv_if_eq (tgt := 49) hx hb dX7_readsChange_42 (by decide) (fun h => absurd h (by decide)) (fun _ => ?_)
      refine lv_iconst (v := 1) hx hb dX7_readsChange_45 (by decide) ?_
      refine lv_goto (tgt := 50) hx hb dX7_readsChange_46 (by decide) ?_
      refine zn_add hx hb (x := i) (y := 1) (z := i + 1) (by omega) dX7_readsChange_50 ?_
      refine z_put S in_lay_X7 tyX7_ok nmX7 hK hP hD hS rfl 0 rfl 6 (by decide) fl_X7_132 rfl rfl rfl rfl (Nat.le_of_ble_eq_true rfl) dX7_readsChange_51 (fun H locs hP hS => ?_)
      have hP : va_P D vwCl [(o 0, .inr (7, [f0, f1, f2, f3, .ref (o 3), .int (nI n), .int (nI (i + 1)), .int (zb wl), .ref (o 4), .int (nI rm), f10])), (o 3, .inl (ca 0, 60, .inl (fun k => nI (g k)))), (o 4, .inl (ca 0, 93, .inl rd))] H := hP
      have hD := zDto (ws := [(o 0, .inr (7, [f0, f1, f2, f3, .ref (o 3), .int (nI n), .int (nI (i + 1)), .int (zb wl), .ref (o 4), .int (nI rm), f10])), (o 3, .inl (ca 0, 60, .inl (fun k => nI (g k)))), (o 4, .inl (ca 0, 93, .inl rd))]) hN hA rfl
      refine lv_aload_n hx hb dX7_readsChange_54 rfl (lv_at hl 3 rfl) ?_
      refine z_get S in_lay_X7 hK hP rfl 0 rfl 8 (by decide) fl_X7_19 rfl rfl dX7_readsChange_55 ?_
      refine lv_iload_n hx hb dX7_readsChange_58 rfl (lv_at hl 2 rfl) ?_
      refine lv_iload_n hx hb dX7_readsChange_59 rfl (lv_at hl 0 rfl) ?_
      refine lv_if_eq (tgt := 67) hx hb dX7_readsChange_60 (by decide) (fun h => absurd h (by decide)) (fun _ => ?_)
      refine lv_iload_n hx hb dX7_readsChange_63 rfl (lv_at hl 1 rfl) ?_
      refine lv_goto (tgt := 69) hx hb dX7_readsChange_64 (by decide) ?_
      refine z_iast S hK hP hD hS 2 rfl (j := 3 * rm) (by omega) (by decide) dX7_readsChange_69 (fun H locs hP hS => ?_)
      have hP : va_P D vwCl [(o 0, .inr (7, [f0, f1, f2, f3, .ref (o 3), .int (nI n), .int (nI (i + 1)), .int (zb wl), .ref (o 4), .int (nI rm), f10])), (o 3, .inl (ca 0, 60, .inl (fun k => nI (g k)))), (o 4, .inl (ca 0, 93, .inl (upd rd (3 * rm) (nI (zSg g n i)))))] H := hP
      have hD := zDto (ws := [(o 0, .inr (7, [f0, f1, f2, f3, .ref (o 3), .int (nI n), .int (nI (i + 1)), .int (zb wl), .ref (o 4), .int (nI rm), f10])), (o 3, .inl (ca 0, 60, .inl (fun k => nI (g k)))), (o 4, .inl (ca 0, 93, .inl (upd rd (3 * rm) (nI (zSg g n i)))))]) hN hA rfl
      refine lv_aload_n hx hb dX7_readsChange_70 rfl (lv_at hl 3 rfl) ?_
      refine z_get S in_lay_X7 hK hP rfl 0 rfl 8 (by decide) fl_X7_19 rfl rfl dX7_readsChange_71 ?_
      refine lv_iload_n hx hb dX7_readsChange_74 rfl (lv_at hl 2 rfl) ?_
      refine lv_iconst (v := 1) hx hb dX7_readsChange_75 (by decide) ?_
      refine zn_add hx hb (x := 3 * rm) (y := 1) (z := (3 * rm) + 1) (by omega) dX7_readsChange_76 ?_
      refine lv_iload_n hx hb dX7_readsChange_77 rfl (lv_at hl 1 rfl) ?_
      refine lv_bipush (v := 43) hx hb dX7_readsChange_78 (by decide) ?_
      refine zn_ne hx hb (x := zSg g n i) (y := 43) (by omega) (by omega) (tgt := 87) dX7_readsChange_80 (by decide) (fun c_80_7 => ?_) (fun h => False.elim (by omega))
      refine lv_iload_n hx hb dX7_readsChange_87 rfl (lv_at hl 1 rfl) ?_
      refine lv_bipush (v := 126) hx hb dX7_readsChange_88 (by decide) ?_
      refine zn_ne hx hb (x := zSg g n i) (y := 126) (by omega) (by omega) (tgt := 102) dX7_readsChange_90 (by decide) (fun c_90_8 => ?_) (fun h => False.elim (by omega))
      refine lv_aload_n hx hb dX7_readsChange_102 rfl (lv_at hl 3 rfl) ?_
      refine zcw (As := []) (rest := [.int (nI ((3 * rm) + 1)), .ref (o 4)]) (st1 := [.int ((rPr g n (i + 1) wl).1), .int (nI ((3 * rm) + 1)), .ref (o 4)]) (q0 := 0) (lw := [o 0, o 3]) S (c_X7_placeRead l D ca o f0 f1 f2 f3 (.ref (o 4)) (.int (nI rm)) f10 n (i + 1) wl g (by first | assumption | omega) (by first | assumption | omega) (by first | assumption | omega)  (znd_pick hN [0, 1] rfl rfl)) ml_X7_148 zy_X7_placeRead im_X7_placeRead se_X7_placeRead ⟨Nat.le_of_ble_eq_true rfl, Nat.le_of_ble_eq_true rfl⟩ hK hP hD hS [0, 1] rfl rfl rfl rfl rfl rfl rfl hl.1 rfl rfl (Nat.le_of_ble_eq_true rfl) ⟨Nat.zero_le _, Nat.zero_le _⟩ dX7_readsChange_103 (fun H locs hP hS => ?_)
      have hP : va_P D vwCl [(o 0, .inr (7, [f0, f1, f2, f3, .ref (o 3), .int (nI n), .int (nI ((rPr g n (i + 1) wl).2.1)), .int (zb ((rPr g n (i + 1) wl).2.2)), .ref (o 4), .int (nI rm), f10])), (o 3, .inl (ca 0, 60, .inl (fun k => nI (g k)))), (o 4, .inl (ca 0, 93, .inl (upd rd (3 * rm) (nI (zSg g n i)))))] H := hP
      have hD := zDto (ws := [(o 0, .inr (7, [f0, f1, f2, f3, .ref (o 3), .int (nI n), .int (nI ((rPr g n (i + 1) wl).2.1)), .int (zb ((rPr g n (i + 1) wl).2.2)), .ref (o 4), .int (nI rm), f10])), (o 3, .inl (ca 0, 60, .inl (fun k => nI (g k)))), (o 4, .inl (ca 0, 93, .inl (upd rd (3 * rm) (nI (zSg g n i)))))]) hN hA rfl
      have hzle := rPr_le (g := g) (n := n) (i := (i + 1)) (w := wl) (by omega)
      refine z_iast S hK hP hD hS 2 rfl (j := (3 * rm) + 1) (by omega) (by decide) dX7_readsChange_106 (fun H locs hP hS => ?_)
      have hP : va_P D vwCl [(o 0, .inr (7, [f0, f1, f2, f3, .ref (o 3), .int (nI n), .int (nI ((rPr g n (i + 1) wl).2.1)), .int (zb ((rPr g n (i + 1) wl).2.2)), .ref (o 4), .int (nI rm), f10])), (o 3, .inl (ca 0, 60, .inl (fun k => nI (g k)))), (o 4, .inl (ca 0, 93, .inl (upd (upd rd (3 * rm) (nI (zSg g n i))) ((3 * rm) + 1) ((rPr g n (i + 1) wl).1))))] H := hP
      have hD := zDto (ws := [(o 0, .inr (7, [f0, f1, f2, f3, .ref (o 3), .int (nI n), .int (nI ((rPr g n (i + 1) wl).2.1)), .int (zb ((rPr g n (i + 1) wl).2.2)), .ref (o 4), .int (nI rm), f10])), (o 3, .inl (ca 0, 60, .inl (fun k => nI (g k)))), (o 4, .inl (ca 0, 93, .inl (upd (upd rd (3 * rm) (nI (zSg g n i))) ((3 * rm) + 1) ((rPr g n (i + 1) wl).1))))]) hN hA rfl
      refine lv_iload_n hx hb dX7_readsChange_107 rfl (lv_at hl 0 rfl) ?_
      refine lv_if_ne (tgt := 157) hx hb dX7_readsChange_108 (by decide) (fun _ => ?_) (fun h => absurd h (by decide))
      refine lv_aload_n hx hb dX7_readsChange_157 rfl (lv_at hl 3 rfl) ?_
      refine z_get S in_lay_X7 hK hP rfl 0 rfl 8 (by decide) fl_X7_19 rfl rfl dX7_readsChange_158 ?_
      refine lv_iload_n hx hb dX7_readsChange_161 rfl (lv_at hl 2 rfl) ?_
      refine lv_iconst (v := 2) hx hb dX7_readsChange_162 (by decide) ?_
      refine zn_add hx hb (x := 3 * rm) (y := 2) (z := (3 * rm) + 2) (by omega) dX7_readsChange_163 ?_
      refine lv_iload_n hx hb dX7_readsChange_164 rfl (lv_at hl 1 rfl) ?_
      refine lv_bipush (v := 45) hx hb dX7_readsChange_165 (by decide) ?_
      refine zn_eq hx hb (x := zSg g n i) (y := 45) (by omega) (by omega) (tgt := 176) dX7_readsChange_167 (by decide) (fun c_167_9 => ?_) (fun h => False.elim (by omega))
      refine lv_iconst (v := 0) hx hb dX7_readsChange_176 (by decide) ?_
      refine lv_goto (tgt := 186) hx hb dX7_readsChange_177 (by decide) ?_
      refine z_iast S hK hP hD hS 2 rfl (j := (3 * rm) + 2) (by omega) (by decide) dX7_readsChange_186 (fun H locs hP hS => ?_)
      have hP : va_P D vwCl [(o 0, .inr (7, [f0, f1, f2, f3, .ref (o 3), .int (nI n), .int (nI ((rPr g n (i + 1) wl).2.1)), .int (zb ((rPr g n (i + 1) wl).2.2)), .ref (o 4), .int (nI rm), f10])), (o 3, .inl (ca 0, 60, .inl (fun k => nI (g k)))), (o 4, .inl (ca 0, 93, .inl (upd (upd (upd rd (3 * rm) (nI (zSg g n i))) ((3 * rm) + 1) ((rPr g n (i + 1) wl).1)) ((3 * rm) + 2) 0)))] H := hP
      have hD := zDto (ws := [(o 0, .inr (7, [f0, f1, f2, f3, .ref (o 3), .int (nI n), .int (nI ((rPr g n (i + 1) wl).2.1)), .int (zb ((rPr g n (i + 1) wl).2.2)), .ref (o 4), .int (nI rm), f10])), (o 3, .inl (ca 0, 60, .inl (fun k => nI (g k)))), (o 4, .inl (ca 0, 93, .inl (upd (upd (upd rd (3 * rm) (nI (zSg g n i))) ((3 * rm) + 1) ((rPr g n (i + 1) wl).1)) ((3 * rm) + 2) 0)))]) hN hA rfl
      refine lv_aload_n hx hb dX7_readsChange_187 rfl (lv_at hl 3 rfl) ?_
      refine lv_dup hx hb dX7_readsChange_188 rfl ?_
      refine z_get S in_lay_X7 hK hP rfl 0 rfl 9 (by decide) fl_X7_145 rfl rfl dX7_readsChange_189 ?_
      refine lv_aload_n hx hb dX7_readsChange_192 rfl (lv_at hl 3 rfl) ?_
      refine z_get S in_lay_X7 hK hP rfl 0 rfl 7 (by decide) fl_X7_135 rfl rfl dX7_readsChange_193 ?_
      refine zz_eq (tgt := 203) hx hb dX7_readsChange_196 (by decide) (fun c_196_10 => ?_) (fun c_196_10 => ?_)
      · refine lv_iconst (v := 0) hx hb dX7_readsChange_203 (by decide) ?_
        refine zn_add hx hb (x := rm) (y := 0) (z := rm) (by omega) dX7_readsChange_204 ?_
        refine z_put S in_lay_X7 tyX7_ok nmX7 hK hP hD hS rfl 0 rfl 9 (by decide) fl_X7_145 rfl rfl rfl rfl (Nat.le_of_ble_eq_true rfl) dX7_readsChange_205 (fun H locs hP hS => ?_)
        have hP : va_P D vwCl [(o 0, .inr (7, [f0, f1, f2, f3, .ref (o 3), .int (nI n), .int (nI ((rPr g n (i + 1) wl).2.1)), .int (zb ((rPr g n (i + 1) wl).2.2)), .ref (o 4), .int (nI rm), f10])), (o 3, .inl (ca 0, 60, .inl (fun k => nI (g k)))), (o 4, .inl (ca 0, 93, .inl (upd (upd (upd rd (3 * rm) (nI (zSg g n i))) ((3 * rm) + 1) ((rPr g n (i + 1) wl).1)) ((3 * rm) + 2) 0)))] H := hP
        have hD := zDto (ws := [(o 0, .inr (7, [f0, f1, f2, f3, .ref (o 3), .int (nI n), .int (nI ((rPr g n (i + 1) wl).2.1)), .int (zb ((rPr g n (i + 1) wl).2.2)), .ref (o 4), .int (nI rm), f10])), (o 3, .inl (ca 0, 60, .inl (fun k => nI (g k)))), (o 4, .inl (ca 0, 93, .inl (upd (upd (upd rd (3 * rm) (nI (zSg g n i))) ((3 * rm) + 1) ((rPr g n (i + 1) wl).1)) ((3 * rm) + 2) 0)))]) hN hA rfl
        have hz : rRc g n i wl rd rm = (((rPr g n (i + 1) wl).2.1), ((rPr g n (i + 1) wl).2.2), (upd (upd (upd rd (3 * rm) (nI (zSg g n i))) ((3 * rm) + 1) ((rPr g n (i + 1) wl).1)) ((3 * rm) + 2) 0), rm) := by (conv => lhs; simp only [rRc, rEnd, c_15_1, c_21_6, c_80_7, c_90_8, c_167_9, c_196_10, if_true, if_false, Bool.false_eq_true, Bool.true_and, Bool.false_and, decide_true, decide_false]) <;> first | rfl | simp [c_15_1, c_21_6, c_80_7, c_90_8, c_167_9, c_196_10] | simp [rRc, rEnd, c_15_1, c_21_6, c_80_7, c_90_8, c_167_9, c_196_10]
        exact zw_v hx hb hr hlk hP hS (by rw [hz] <;> rfl) dX7_readsChange_208
      · refine lv_iconst (v := 1) hx hb dX7_readsChange_199 (by decide) ?_
        refine lv_goto (tgt := 204) hx hb dX7_readsChange_200 (by decide) ?_
        refine zn_add hx hb (x := rm) (y := 1) (z := rm + 1) (by omega) dX7_readsChange_204 ?_
        refine z_put S in_lay_X7 tyX7_ok nmX7 hK hP hD hS rfl 0 rfl 9 (by decide) fl_X7_145 rfl rfl rfl rfl (Nat.le_of_ble_eq_true rfl) dX7_readsChange_205 (fun H locs hP hS => ?_)
        have hP : va_P D vwCl [(o 0, .inr (7, [f0, f1, f2, f3, .ref (o 3), .int (nI n), .int (nI ((rPr g n (i + 1) wl).2.1)), .int (zb ((rPr g n (i + 1) wl).2.2)), .ref (o 4), .int (nI (rm + 1)), f10])), (o 3, .inl (ca 0, 60, .inl (fun k => nI (g k)))), (o 4, .inl (ca 0, 93, .inl (upd (upd (upd rd (3 * rm) (nI (zSg g n i))) ((3 * rm) + 1) ((rPr g n (i + 1) wl).1)) ((3 * rm) + 2) 0)))] H := hP
        have hD := zDto (ws := [(o 0, .inr (7, [f0, f1, f2, f3, .ref (o 3), .int (nI n), .int (nI ((rPr g n (i + 1) wl).2.1)), .int (zb ((rPr g n (i + 1) wl).2.2)), .ref (o 4), .int (nI (rm + 1)), f10])), (o 3, .inl (ca 0, 60, .inl (fun k => nI (g k)))), (o 4, .inl (ca 0, 93, .inl (upd (upd (upd rd (3 * rm) (nI (zSg g n i))) ((3 * rm) + 1) ((rPr g n (i + 1) wl).1)) ((3 * rm) + 2) 0)))]) hN hA rfl
        have hz : rRc g n i wl rd rm = (((rPr g n (i + 1) wl).2.1), ((rPr g n (i + 1) wl).2.2), (upd (upd (upd rd (3 * rm) (nI (zSg g n i))) ((3 * rm) + 1) ((rPr g n (i + 1) wl).1)) ((3 * rm) + 2) 0), (rm + 1)) := by (conv => lhs; simp only [rRc, rEnd, c_15_1, c_21_6, c_80_7, c_90_8, c_167_9, c_196_10, if_true, if_false, Bool.false_eq_true, Bool.true_and, Bool.false_and, decide_true, decide_false]) <;> first | rfl | simp [c_15_1, c_21_6, c_80_7, c_90_8, c_167_9, c_196_10] | simp [rRc, rEnd, c_15_1, c_21_6, c_80_7, c_90_8, c_167_9, c_196_10]
        exact zw_v hx hb hr hlk hP hS (by rw [hz] <;> rfl) dX7_readsChange_208
    · refine lv_iload_n hx hb dX7_readsChange_24 rfl (lv_at hl 0 rfl) ?_
      refine lv_bipush (v := 126) hx hb dX7_readsChange_25 (by decide) ?_
      refine zn_ne hx hb (x := zSg g n i) (y := 126) (by omega) (by omega) (tgt := 34) dX7_readsChange_27 (by decide) (fun c_27_11 => ?_) (fun c_27_11 => ?_)
      · refine lv_iconst (v := 0) hx hb dX7_readsChange_34 (by decide) ?_
        refine lv_istore_n (lv' := [(3, .int 0), (2, .int (nI (zSg g n i))), (1, .int (nI (3 * rm))), (0, .ref (o 0))]) hx hb dX7_readsChange_35 rfl hl (by decide) rfl (fun ls hl => ?_)
        refine lv_aload_n hx hb dX7_readsChange_36 rfl (lv_at hl 3 rfl) ?_
        refine lv_dup hx hb dX7_readsChange_37 rfl ?_
        refine z_get S in_lay_X7 hK hP rfl 0 rfl 6 (by decide) fl_X7_132 rfl rfl dX7_readsChange_38 ?_
        refine lv_iload_n hx hb dX7_readsChange_41 rfl (lv_at hl 0 rfl) ?_
        refine lv_if_eq (tgt := 49) hx hb dX7_readsChange_42 (by decide) (fun _ => ?_) (fun h => absurd (by decide) h)
        refine lv_iconst (v := 0) hx hb dX7_readsChange_49 (by decide) ?_
        refine zn_add hx hb (x := i) (y := 0) (z := i) (by omega) dX7_readsChange_50 ?_
        refine z_put S in_lay_X7 tyX7_ok nmX7 hK hP hD hS rfl 0 rfl 6 (by decide) fl_X7_132 rfl rfl rfl rfl (Nat.le_of_ble_eq_true rfl) dX7_readsChange_51 (fun H locs hP hS => ?_)
        have hP : va_P D vwCl [(o 0, .inr (7, [f0, f1, f2, f3, .ref (o 3), .int (nI n), .int (nI i), .int (zb wl), .ref (o 4), .int (nI rm), f10])), (o 3, .inl (ca 0, 60, .inl (fun k => nI (g k)))), (o 4, .inl (ca 0, 93, .inl rd))] H := hP
        have hD := zDto (ws := [(o 0, .inr (7, [f0, f1, f2, f3, .ref (o 3), .int (nI n), .int (nI i), .int (zb wl), .ref (o 4), .int (nI rm), f10])), (o 3, .inl (ca 0, 60, .inl (fun k => nI (g k)))), (o 4, .inl (ca 0, 93, .inl rd))]) hN hA rfl
        refine lv_aload_n hx hb dX7_readsChange_54 rfl (lv_at hl 3 rfl) ?_
        refine z_get S in_lay_X7 hK hP rfl 0 rfl 8 (by decide) fl_X7_19 rfl rfl dX7_readsChange_55 ?_
        refine lv_iload_n hx hb dX7_readsChange_58 rfl (lv_at hl 2 rfl) ?_
        refine lv_iload_n hx hb dX7_readsChange_59 rfl (lv_at hl 0 rfl) ?_
        refine lv_if_eq (tgt := 67) hx hb dX7_readsChange_60 (by decide) (fun _ => ?_) (fun h => absurd (by decide) h)
        refine lv_bipush (v := 61) hx hb dX7_readsChange_67 (by decide) ?_
        refine z_iast S hK hP hD hS 2 rfl (j := 3 * rm) (by omega) (by decide) dX7_readsChange_69 (fun H locs hP hS => ?_)
        have hP : va_P D vwCl [(o 0, .inr (7, [f0, f1, f2, f3, .ref (o 3), .int (nI n), .int (nI i), .int (zb wl), .ref (o 4), .int (nI rm), f10])), (o 3, .inl (ca 0, 60, .inl (fun k => nI (g k)))), (o 4, .inl (ca 0, 93, .inl (upd rd (3 * rm) 61)))] H := hP
        have hD := zDto (ws := [(o 0, .inr (7, [f0, f1, f2, f3, .ref (o 3), .int (nI n), .int (nI i), .int (zb wl), .ref (o 4), .int (nI rm), f10])), (o 3, .inl (ca 0, 60, .inl (fun k => nI (g k)))), (o 4, .inl (ca 0, 93, .inl (upd rd (3 * rm) 61)))]) hN hA rfl
        refine lv_aload_n hx hb dX7_readsChange_70 rfl (lv_at hl 3 rfl) ?_
        refine z_get S in_lay_X7 hK hP rfl 0 rfl 8 (by decide) fl_X7_19 rfl rfl dX7_readsChange_71 ?_
        refine lv_iload_n hx hb dX7_readsChange_74 rfl (lv_at hl 2 rfl) ?_
        refine lv_iconst (v := 1) hx hb dX7_readsChange_75 (by decide) ?_
        refine zn_add hx hb (x := 3 * rm) (y := 1) (z := (3 * rm) + 1) (by omega) dX7_readsChange_76 ?_
        refine lv_iload_n hx hb dX7_readsChange_77 rfl (lv_at hl 1 rfl) ?_
        refine lv_bipush (v := 43) hx hb dX7_readsChange_78 (by decide) ?_
        refine zn_ne hx hb (x := zSg g n i) (y := 43) (by omega) (by omega) (tgt := 87) dX7_readsChange_80 (by decide) (fun _ => ?_) (fun h => absurd h (by omega))
        refine lv_iload_n hx hb dX7_readsChange_87 rfl (lv_at hl 1 rfl) ?_
        refine lv_bipush (v := 126) hx hb dX7_readsChange_88 (by decide) ?_
        refine zn_ne hx hb (x := zSg g n i) (y := 126) (by omega) (by omega) (tgt := 102) dX7_readsChange_90 (by decide) (fun _ => ?_) (fun h => absurd h (by omega))
        refine lv_aload_n hx hb dX7_readsChange_102 rfl (lv_at hl 3 rfl) ?_
        refine zcw (As := []) (rest := [.int (nI ((3 * rm) + 1)), .ref (o 4)]) (st1 := [.int ((rPr g n i wl).1), .int (nI ((3 * rm) + 1)), .ref (o 4)]) (q0 := 0) (lw := [o 0, o 3]) S (c_X7_placeRead l D ca o f0 f1 f2 f3 (.ref (o 4)) (.int (nI rm)) f10 n i wl g (by first | assumption | omega) (by first | assumption | omega) (by first | assumption | omega)  (znd_pick hN [0, 1] rfl rfl)) ml_X7_148 zy_X7_placeRead im_X7_placeRead se_X7_placeRead ⟨Nat.le_of_ble_eq_true rfl, Nat.le_of_ble_eq_true rfl⟩ hK hP hD hS [0, 1] rfl rfl rfl rfl rfl rfl rfl hl.1 rfl rfl (Nat.le_of_ble_eq_true rfl) ⟨Nat.zero_le _, Nat.zero_le _⟩ dX7_readsChange_103 (fun H locs hP hS => ?_)
        have hP : va_P D vwCl [(o 0, .inr (7, [f0, f1, f2, f3, .ref (o 3), .int (nI n), .int (nI ((rPr g n i wl).2.1)), .int (zb ((rPr g n i wl).2.2)), .ref (o 4), .int (nI rm), f10])), (o 3, .inl (ca 0, 60, .inl (fun k => nI (g k)))), (o 4, .inl (ca 0, 93, .inl (upd rd (3 * rm) 61)))] H := hP
        have hD := zDto (ws := [(o 0, .inr (7, [f0, f1, f2, f3, .ref (o 3), .int (nI n), .int (nI ((rPr g n i wl).2.1)), .int (zb ((rPr g n i wl).2.2)), .ref (o 4), .int (nI rm), f10])), (o 3, .inl (ca 0, 60, .inl (fun k => nI (g k)))), (o 4, .inl (ca 0, 93, .inl (upd rd (3 * rm) 61)))]) hN hA rfl
        have hzle := rPr_le (g := g) (n := n) (i := i) (w := wl) (by omega)
        refine z_iast S hK hP hD hS 2 rfl (j := (3 * rm) + 1) (by omega) (by decide) dX7_readsChange_106 (fun H locs hP hS => ?_)
        have hP : va_P D vwCl [(o 0, .inr (7, [f0, f1, f2, f3, .ref (o 3), .int (nI n), .int (nI ((rPr g n i wl).2.1)), .int (zb ((rPr g n i wl).2.2)), .ref (o 4), .int (nI rm), f10])), (o 3, .inl (ca 0, 60, .inl (fun k => nI (g k)))), (o 4, .inl (ca 0, 93, .inl (upd (upd rd (3 * rm) 61) ((3 * rm) + 1) ((rPr g n i wl).1))))] H := hP
        have hD := zDto (ws := [(o 0, .inr (7, [f0, f1, f2, f3, .ref (o 3), .int (nI n), .int (nI ((rPr g n i wl).2.1)), .int (zb ((rPr g n i wl).2.2)), .ref (o 4), .int (nI rm), f10])), (o 3, .inl (ca 0, 60, .inl (fun k => nI (g k)))), (o 4, .inl (ca 0, 93, .inl (upd (upd rd (3 * rm) 61) ((3 * rm) + 1) ((rPr g n i wl).1))))]) hN hA rfl
        refine lv_iload_n hx hb dX7_readsChange_107 rfl (lv_at hl 0 rfl) ?_
        refine lv_if_ne (tgt := 157) hx hb dX7_readsChange_108 (by decide) (fun h => absurd (by decide) h) (fun _ => ?_)
        refine lv_aload_n hx hb dX7_readsChange_111 rfl (lv_at hl 3 rfl) ?_
        refine lv_aload_n hx hb dX7_readsChange_112 rfl (lv_at hl 3 rfl) ?_
        refine z_get S in_lay_X7 hK hP rfl 0 rfl 7 (by decide) fl_X7_135 rfl rfl dX7_readsChange_113 ?_
        refine zz_eq (tgt := 132) hx hb dX7_readsChange_116 (by decide) (fun c_116_12 => ?_) (fun c_116_12 => ?_)
        · refine lv_iconst (v := 0) hx hb dX7_readsChange_132 (by decide) ?_
          refine z_put S in_lay_X7 tyX7_ok nmX7 hK hP hD hS rfl 0 rfl 7 (by decide) fl_X7_135 rfl rfl rfl rfl (Nat.le_of_ble_eq_true rfl) dX7_readsChange_133 (fun H locs hP hS => ?_)
          have hP : va_P D vwCl [(o 0, .inr (7, [f0, f1, f2, f3, .ref (o 3), .int (nI n), .int (nI ((rPr g n i wl).2.1)), .int (zb false), .ref (o 4), .int (nI rm), f10])), (o 3, .inl (ca 0, 60, .inl (fun k => nI (g k)))), (o 4, .inl (ca 0, 93, .inl (upd (upd rd (3 * rm) 61) ((3 * rm) + 1) ((rPr g n i wl).1))))] H := hP
          have hD := zDto (ws := [(o 0, .inr (7, [f0, f1, f2, f3, .ref (o 3), .int (nI n), .int (nI ((rPr g n i wl).2.1)), .int (zb false), .ref (o 4), .int (nI rm), f10])), (o 3, .inl (ca 0, 60, .inl (fun k => nI (g k)))), (o 4, .inl (ca 0, 93, .inl (upd (upd rd (3 * rm) 61) ((3 * rm) + 1) ((rPr g n i wl).1))))]) hN hA rfl
          refine lv_aload_n hx hb dX7_readsChange_136 rfl (lv_at hl 3 rfl) ?_
          refine lv_dup hx hb dX7_readsChange_137 rfl ?_
          refine z_get S in_lay_X7 hK hP rfl 0 rfl 6 (by decide) fl_X7_132 rfl rfl dX7_readsChange_138 ?_
          refine lv_aload_n hx hb dX7_readsChange_141 rfl (lv_at hl 3 rfl) ?_
          refine z_get S in_lay_X7 hK hP rfl 0 rfl 7 (by decide) fl_X7_135 rfl rfl dX7_readsChange_142 ?_
          refine lv_if_eq (tgt := 152) hx hb dX7_readsChange_145 (by decide) (fun _ => ?_) (fun h => absurd (by decide) h)
          refine lv_iconst (v := 0) hx hb dX7_readsChange_152 (by decide) ?_
          refine zn_add hx hb (x := (rPr g n i wl).2.1) (y := 0) (z := (rPr g n i wl).2.1) (by omega) dX7_readsChange_153 ?_
          refine z_put S in_lay_X7 tyX7_ok nmX7 hK hP hD hS rfl 0 rfl 6 (by decide) fl_X7_132 rfl rfl rfl rfl (Nat.le_of_ble_eq_true rfl) dX7_readsChange_154 (fun H locs hP hS => ?_)
          have hP : va_P D vwCl [(o 0, .inr (7, [f0, f1, f2, f3, .ref (o 3), .int (nI n), .int (nI ((rPr g n i wl).2.1)), .int (zb false), .ref (o 4), .int (nI rm), f10])), (o 3, .inl (ca 0, 60, .inl (fun k => nI (g k)))), (o 4, .inl (ca 0, 93, .inl (upd (upd rd (3 * rm) 61) ((3 * rm) + 1) ((rPr g n i wl).1))))] H := hP
          have hD := zDto (ws := [(o 0, .inr (7, [f0, f1, f2, f3, .ref (o 3), .int (nI n), .int (nI ((rPr g n i wl).2.1)), .int (zb false), .ref (o 4), .int (nI rm), f10])), (o 3, .inl (ca 0, 60, .inl (fun k => nI (g k)))), (o 4, .inl (ca 0, 93, .inl (upd (upd rd (3 * rm) 61) ((3 * rm) + 1) ((rPr g n i wl).1))))]) hN hA rfl
          refine lv_aload_n hx hb dX7_readsChange_157 rfl (lv_at hl 3 rfl) ?_
          refine z_get S in_lay_X7 hK hP rfl 0 rfl 8 (by decide) fl_X7_19 rfl rfl dX7_readsChange_158 ?_
          refine lv_iload_n hx hb dX7_readsChange_161 rfl (lv_at hl 2 rfl) ?_
          refine lv_iconst (v := 2) hx hb dX7_readsChange_162 (by decide) ?_
          refine zn_add hx hb (x := 3 * rm) (y := 2) (z := (3 * rm) + 2) (by omega) dX7_readsChange_163 ?_
          refine lv_iload_n hx hb dX7_readsChange_164 rfl (lv_at hl 1 rfl) ?_
          refine lv_bipush (v := 45) hx hb dX7_readsChange_165 (by decide) ?_
          refine zn_eq hx hb (x := zSg g n i) (y := 45) (by omega) (by omega) (tgt := 176) dX7_readsChange_167 (by decide) (fun h => absurd h (by omega)) (fun _ => ?_)
          refine lv_iload_n hx hb dX7_readsChange_170 rfl (lv_at hl 1 rfl) ?_
          refine lv_bipush (v := 126) hx hb dX7_readsChange_171 (by decide) ?_
          refine zn_ne hx hb (x := zSg g n i) (y := 126) (by omega) (by omega) (tgt := 180) dX7_readsChange_173 (by decide) (fun _ => ?_) (fun h => absurd h (by omega))
          refine lv_aload_n hx hb dX7_readsChange_180 rfl (lv_at hl 3 rfl) ?_
          refine lv_bipush (v := 57) hx hb dX7_readsChange_181 (by decide) ?_
          refine zcw (As := [.int 57]) (rest := [.int (nI ((3 * rm) + 2)), .ref (o 4)]) (st1 := [.int ((rDt g n ((rPr g n i wl).2.1) false 57).1), .int (nI ((3 * rm) + 2)), .ref (o 4)]) (q0 := 0) (lw := [o 0, o 3]) S (c_X7_digit l D ca o f0 f1 f2 f3 (.ref (o 4)) (.int (nI rm)) f10 n ((rPr g n i wl).2.1) false g (by first | assumption | omega) (by first | assumption | omega) (by first | assumption | omega) 57 (znd_pick hN [0, 1] rfl rfl)) ml_X7_142 zy_X7_digit im_X7_digit se_X7_digit ⟨Nat.le_of_ble_eq_true rfl, Nat.le_of_ble_eq_true rfl⟩ hK hP hD hS [0, 1] rfl rfl rfl rfl rfl rfl rfl hl.1 rfl rfl (Nat.le_of_ble_eq_true rfl) ⟨Nat.zero_le _, Nat.zero_le _⟩ dX7_readsChange_183 (fun H locs hP hS => ?_)
          have hP : va_P D vwCl [(o 0, .inr (7, [f0, f1, f2, f3, .ref (o 3), .int (nI n), .int (nI ((rDt g n ((rPr g n i wl).2.1) false 57).2.1)), .int (zb ((rDt g n ((rPr g n i wl).2.1) false 57).2.2)), .ref (o 4), .int (nI rm), f10])), (o 3, .inl (ca 0, 60, .inl (fun k => nI (g k)))), (o 4, .inl (ca 0, 93, .inl (upd (upd rd (3 * rm) 61) ((3 * rm) + 1) ((rPr g n i wl).1))))] H := hP
          have hD := zDto (ws := [(o 0, .inr (7, [f0, f1, f2, f3, .ref (o 3), .int (nI n), .int (nI ((rDt g n ((rPr g n i wl).2.1) false 57).2.1)), .int (zb ((rDt g n ((rPr g n i wl).2.1) false 57).2.2)), .ref (o 4), .int (nI rm), f10])), (o 3, .inl (ca 0, 60, .inl (fun k => nI (g k)))), (o 4, .inl (ca 0, 93, .inl (upd (upd rd (3 * rm) 61) ((3 * rm) + 1) ((rPr g n i wl).1))))]) hN hA rfl
          have hzle := rDt_le (g := g) (n := n) (i := ((rPr g n i wl).2.1)) (w := false) (e := 57) (by omega)
          refine z_iast S hK hP hD hS 2 rfl (j := (3 * rm) + 2) (by omega) (by decide) dX7_readsChange_186 (fun H locs hP hS => ?_)
          have hP : va_P D vwCl [(o 0, .inr (7, [f0, f1, f2, f3, .ref (o 3), .int (nI n), .int (nI ((rDt g n ((rPr g n i wl).2.1) false 57).2.1)), .int (zb ((rDt g n ((rPr g n i wl).2.1) false 57).2.2)), .ref (o 4), .int (nI rm), f10])), (o 3, .inl (ca 0, 60, .inl (fun k => nI (g k)))), (o 4, .inl (ca 0, 93, .inl (upd (upd (upd rd (3 * rm) 61) ((3 * rm) + 1) ((rPr g n i wl).1)) ((3 * rm) + 2) ((rDt g n ((rPr g n i wl).2.1) false 57).1))))] H := hP
          have hD := zDto (ws := [(o 0, .inr (7, [f0, f1, f2, f3, .ref (o 3), .int (nI n), .int (nI ((rDt g n ((rPr g n i wl).2.1) false 57).2.1)), .int (zb ((rDt g n ((rPr g n i wl).2.1) false 57).2.2)), .ref (o 4), .int (nI rm), f10])), (o 3, .inl (ca 0, 60, .inl (fun k => nI (g k)))), (o 4, .inl (ca 0, 93, .inl (upd (upd (upd rd (3 * rm) 61) ((3 * rm) + 1) ((rPr g n i wl).1)) ((3 * rm) + 2) ((rDt g n ((rPr g n i wl).2.1) false 57).1))))]) hN hA rfl
          refine lv_aload_n hx hb dX7_readsChange_187 rfl (lv_at hl 3 rfl) ?_
          refine lv_dup hx hb dX7_readsChange_188 rfl ?_
          refine z_get S in_lay_X7 hK hP rfl 0 rfl 9 (by decide) fl_X7_145 rfl rfl dX7_readsChange_189 ?_
          refine lv_aload_n hx hb dX7_readsChange_192 rfl (lv_at hl 3 rfl) ?_
          refine z_get S in_lay_X7 hK hP rfl 0 rfl 7 (by decide) fl_X7_135 rfl rfl dX7_readsChange_193 ?_
          refine zz_eq (tgt := 203) hx hb dX7_readsChange_196 (by decide) (fun c_196_13 => ?_) (fun c_196_13 => ?_)
          · refine lv_iconst (v := 0) hx hb dX7_readsChange_203 (by decide) ?_
            refine zn_add hx hb (x := rm) (y := 0) (z := rm) (by omega) dX7_readsChange_204 ?_
            refine z_put S in_lay_X7 tyX7_ok nmX7 hK hP hD hS rfl 0 rfl 9 (by decide) fl_X7_145 rfl rfl rfl rfl (Nat.le_of_ble_eq_true rfl) dX7_readsChange_205 (fun H locs hP hS => ?_)
            have hP : va_P D vwCl [(o 0, .inr (7, [f0, f1, f2, f3, .ref (o 3), .int (nI n), .int (nI ((rDt g n ((rPr g n i wl).2.1) false 57).2.1)), .int (zb ((rDt g n ((rPr g n i wl).2.1) false 57).2.2)), .ref (o 4), .int (nI rm), f10])), (o 3, .inl (ca 0, 60, .inl (fun k => nI (g k)))), (o 4, .inl (ca 0, 93, .inl (upd (upd (upd rd (3 * rm) 61) ((3 * rm) + 1) ((rPr g n i wl).1)) ((3 * rm) + 2) ((rDt g n ((rPr g n i wl).2.1) false 57).1))))] H := hP
            have hD := zDto (ws := [(o 0, .inr (7, [f0, f1, f2, f3, .ref (o 3), .int (nI n), .int (nI ((rDt g n ((rPr g n i wl).2.1) false 57).2.1)), .int (zb ((rDt g n ((rPr g n i wl).2.1) false 57).2.2)), .ref (o 4), .int (nI rm), f10])), (o 3, .inl (ca 0, 60, .inl (fun k => nI (g k)))), (o 4, .inl (ca 0, 93, .inl (upd (upd (upd rd (3 * rm) 61) ((3 * rm) + 1) ((rPr g n i wl).1)) ((3 * rm) + 2) ((rDt g n ((rPr g n i wl).2.1) false 57).1))))]) hN hA rfl
            have hz : rRc g n i wl rd rm = (((rDt g n ((rPr g n i wl).2.1) false 57).2.1), ((rDt g n ((rPr g n i wl).2.1) false 57).2.2), (upd (upd (upd rd (3 * rm) 61) ((3 * rm) + 1) ((rPr g n i wl).1)) ((3 * rm) + 2) ((rDt g n ((rPr g n i wl).2.1) false 57).1)), rm) := by (conv => lhs; simp only [rRc, rEnd, c_15_1, c_21_6, c_27_11, c_116_12, c_196_13, if_true, if_false, Bool.false_eq_true, Bool.true_and, Bool.false_and, decide_true, decide_false]) <;> first | rfl | simp [c_15_1, c_21_6, c_27_11, c_116_12, c_196_13] | simp [rRc, rEnd, c_15_1, c_21_6, c_27_11, c_116_12, c_196_13]
            exact zw_v hx hb hr hlk hP hS (by rw [hz] <;> rfl) dX7_readsChange_208
          · refine lv_iconst (v := 1) hx hb dX7_readsChange_199 (by decide) ?_
            refine lv_goto (tgt := 204) hx hb dX7_readsChange_200 (by decide) ?_
            refine zn_add hx hb (x := rm) (y := 1) (z := rm + 1) (by omega) dX7_readsChange_204 ?_
            refine z_put S in_lay_X7 tyX7_ok nmX7 hK hP hD hS rfl 0 rfl 9 (by decide) fl_X7_145 rfl rfl rfl rfl (Nat.le_of_ble_eq_true rfl) dX7_readsChange_205 (fun H locs hP hS => ?_)
            have hP : va_P D vwCl [(o 0, .inr (7, [f0, f1, f2, f3, .ref (o 3), .int (nI n), .int (nI ((rDt g n ((rPr g n i wl).2.1) false 57).2.1)), .int (zb ((rDt g n ((rPr g n i wl).2.1) false 57).2.2)), .ref (o 4), .int (nI (rm + 1)), f10])), (o 3, .inl (ca 0, 60, .inl (fun k => nI (g k)))), (o 4, .inl (ca 0, 93, .inl (upd (upd (upd rd (3 * rm) 61) ((3 * rm) + 1) ((rPr g n i wl).1)) ((3 * rm) + 2) ((rDt g n ((rPr g n i wl).2.1) false 57).1))))] H := hP
            have hD := zDto (ws := [(o 0, .inr (7, [f0, f1, f2, f3, .ref (o 3), .int (nI n), .int (nI ((rDt g n ((rPr g n i wl).2.1) false 57).2.1)), .int (zb ((rDt g n ((rPr g n i wl).2.1) false 57).2.2)), .ref (o 4), .int (nI (rm + 1)), f10])), (o 3, .inl (ca 0, 60, .inl (fun k => nI (g k)))), (o 4, .inl (ca 0, 93, .inl (upd (upd (upd rd (3 * rm) 61) ((3 * rm) + 1) ((rPr g n i wl).1)) ((3 * rm) + 2) ((rDt g n ((rPr g n i wl).2.1) false 57).1))))]) hN hA rfl
            have hz : rRc g n i wl rd rm = (((rDt g n ((rPr g n i wl).2.1) false 57).2.1), ((rDt g n ((rPr g n i wl).2.1) false 57).2.2), (upd (upd (upd rd (3 * rm) 61) ((3 * rm) + 1) ((rPr g n i wl).1)) ((3 * rm) + 2) ((rDt g n ((rPr g n i wl).2.1) false 57).1)), (rm + 1)) := by (conv => lhs; simp only [rRc, rEnd, c_15_1, c_21_6, c_27_11, c_116_12, c_196_13, if_true, if_false, Bool.false_eq_true, Bool.true_and, Bool.false_and, decide_true, decide_false]) <;> first | rfl | simp [c_15_1, c_21_6, c_27_11, c_116_12, c_196_13] | simp [rRc, rEnd, c_15_1, c_21_6, c_27_11, c_116_12, c_196_13]
            exact zw_v hx hb hr hlk hP hS (by rw [hz] <;> rfl) dX7_readsChange_208
        · refine lv_aload_n hx hb dX7_readsChange_119 rfl (lv_at hl 3 rfl) ?_
          refine zcr (As := []) (rest := [.ref (o 0)]) (q0 := 0) S (c_X7_sign l D ca o f0 f1 f2 f3 (.int (zb ((rPr g n i wl).2.2))) (.ref (o 4)) (.int (nI rm)) f10 n ((rPr g n i wl).2.1) g (by first | assumption | omega) (by first | assumption | omega) (by first | assumption | omega) ) ml_X7_139 zy_X7_sign im_X7_sign se_X7_sign ⟨Nat.le_of_ble_eq_true rfl, Nat.le_of_ble_eq_true rfl⟩ hK hP [0, 1] rfl rfl rfl rfl rfl hl.1 rfl (Nat.le_of_ble_eq_true rfl) ⟨Nat.zero_le _, Nat.zero_le _⟩ dX7_readsChange_120 ?_
          have hsg : zSg g n ((rPr g n i wl).2.1) < 128 := zSg_lt (by assumption)
          refine lv_bipush (v := 61) hx hb dX7_readsChange_123 (by decide) ?_
          refine zn_ne hx hb (x := zSg g n ((rPr g n i wl).2.1)) (y := 61) (by omega) (by omega) (tgt := 132) dX7_readsChange_125 (by decide) (fun c_125_14 => ?_) (fun c_125_14 => ?_)
          · refine lv_iconst (v := 0) hx hb dX7_readsChange_132 (by decide) ?_
            refine z_put S in_lay_X7 tyX7_ok nmX7 hK hP hD hS rfl 0 rfl 7 (by decide) fl_X7_135 rfl rfl rfl rfl (Nat.le_of_ble_eq_true rfl) dX7_readsChange_133 (fun H locs hP hS => ?_)
            have hP : va_P D vwCl [(o 0, .inr (7, [f0, f1, f2, f3, .ref (o 3), .int (nI n), .int (nI ((rPr g n i wl).2.1)), .int (zb false), .ref (o 4), .int (nI rm), f10])), (o 3, .inl (ca 0, 60, .inl (fun k => nI (g k)))), (o 4, .inl (ca 0, 93, .inl (upd (upd rd (3 * rm) 61) ((3 * rm) + 1) ((rPr g n i wl).1))))] H := hP
            have hD := zDto (ws := [(o 0, .inr (7, [f0, f1, f2, f3, .ref (o 3), .int (nI n), .int (nI ((rPr g n i wl).2.1)), .int (zb false), .ref (o 4), .int (nI rm), f10])), (o 3, .inl (ca 0, 60, .inl (fun k => nI (g k)))), (o 4, .inl (ca 0, 93, .inl (upd (upd rd (3 * rm) 61) ((3 * rm) + 1) ((rPr g n i wl).1))))]) hN hA rfl
            refine lv_aload_n hx hb dX7_readsChange_136 rfl (lv_at hl 3 rfl) ?_
            refine lv_dup hx hb dX7_readsChange_137 rfl ?_
            refine z_get S in_lay_X7 hK hP rfl 0 rfl 6 (by decide) fl_X7_132 rfl rfl dX7_readsChange_138 ?_
            refine lv_aload_n hx hb dX7_readsChange_141 rfl (lv_at hl 3 rfl) ?_
            refine z_get S in_lay_X7 hK hP rfl 0 rfl 7 (by decide) fl_X7_135 rfl rfl dX7_readsChange_142 ?_
            refine lv_if_eq (tgt := 152) hx hb dX7_readsChange_145 (by decide) (fun _ => ?_) (fun h => absurd (by decide) h)
            refine lv_iconst (v := 0) hx hb dX7_readsChange_152 (by decide) ?_
            refine zn_add hx hb (x := (rPr g n i wl).2.1) (y := 0) (z := (rPr g n i wl).2.1) (by omega) dX7_readsChange_153 ?_
            refine z_put S in_lay_X7 tyX7_ok nmX7 hK hP hD hS rfl 0 rfl 6 (by decide) fl_X7_132 rfl rfl rfl rfl (Nat.le_of_ble_eq_true rfl) dX7_readsChange_154 (fun H locs hP hS => ?_)
            have hP : va_P D vwCl [(o 0, .inr (7, [f0, f1, f2, f3, .ref (o 3), .int (nI n), .int (nI ((rPr g n i wl).2.1)), .int (zb false), .ref (o 4), .int (nI rm), f10])), (o 3, .inl (ca 0, 60, .inl (fun k => nI (g k)))), (o 4, .inl (ca 0, 93, .inl (upd (upd rd (3 * rm) 61) ((3 * rm) + 1) ((rPr g n i wl).1))))] H := hP
            have hD := zDto (ws := [(o 0, .inr (7, [f0, f1, f2, f3, .ref (o 3), .int (nI n), .int (nI ((rPr g n i wl).2.1)), .int (zb false), .ref (o 4), .int (nI rm), f10])), (o 3, .inl (ca 0, 60, .inl (fun k => nI (g k)))), (o 4, .inl (ca 0, 93, .inl (upd (upd rd (3 * rm) 61) ((3 * rm) + 1) ((rPr g n i wl).1))))]) hN hA rfl
            refine lv_aload_n hx hb dX7_readsChange_157 rfl (lv_at hl 3 rfl) ?_
            refine z_get S in_lay_X7 hK hP rfl 0 rfl 8 (by decide) fl_X7_19 rfl rfl dX7_readsChange_158 ?_
            refine lv_iload_n hx hb dX7_readsChange_161 rfl (lv_at hl 2 rfl) ?_
            refine lv_iconst (v := 2) hx hb dX7_readsChange_162 (by decide) ?_
            refine zn_add hx hb (x := 3 * rm) (y := 2) (z := (3 * rm) + 2) (by omega) dX7_readsChange_163 ?_
            refine lv_iload_n hx hb dX7_readsChange_164 rfl (lv_at hl 1 rfl) ?_
            refine lv_bipush (v := 45) hx hb dX7_readsChange_165 (by decide) ?_
            refine zn_eq hx hb (x := zSg g n i) (y := 45) (by omega) (by omega) (tgt := 176) dX7_readsChange_167 (by decide) (fun h => absurd h (by omega)) (fun _ => ?_)
            refine lv_iload_n hx hb dX7_readsChange_170 rfl (lv_at hl 1 rfl) ?_
            refine lv_bipush (v := 126) hx hb dX7_readsChange_171 (by decide) ?_
            refine zn_ne hx hb (x := zSg g n i) (y := 126) (by omega) (by omega) (tgt := 180) dX7_readsChange_173 (by decide) (fun _ => ?_) (fun h => absurd h (by omega))
            refine lv_aload_n hx hb dX7_readsChange_180 rfl (lv_at hl 3 rfl) ?_
            refine lv_bipush (v := 57) hx hb dX7_readsChange_181 (by decide) ?_
            refine zcw (As := [.int 57]) (rest := [.int (nI ((3 * rm) + 2)), .ref (o 4)]) (st1 := [.int ((rDt g n ((rPr g n i wl).2.1) false 57).1), .int (nI ((3 * rm) + 2)), .ref (o 4)]) (q0 := 0) (lw := [o 0, o 3]) S (c_X7_digit l D ca o f0 f1 f2 f3 (.ref (o 4)) (.int (nI rm)) f10 n ((rPr g n i wl).2.1) false g (by first | assumption | omega) (by first | assumption | omega) (by first | assumption | omega) 57 (znd_pick hN [0, 1] rfl rfl)) ml_X7_142 zy_X7_digit im_X7_digit se_X7_digit ⟨Nat.le_of_ble_eq_true rfl, Nat.le_of_ble_eq_true rfl⟩ hK hP hD hS [0, 1] rfl rfl rfl rfl rfl rfl rfl hl.1 rfl rfl (Nat.le_of_ble_eq_true rfl) ⟨Nat.zero_le _, Nat.zero_le _⟩ dX7_readsChange_183 (fun H locs hP hS => ?_)
            have hP : va_P D vwCl [(o 0, .inr (7, [f0, f1, f2, f3, .ref (o 3), .int (nI n), .int (nI ((rDt g n ((rPr g n i wl).2.1) false 57).2.1)), .int (zb ((rDt g n ((rPr g n i wl).2.1) false 57).2.2)), .ref (o 4), .int (nI rm), f10])), (o 3, .inl (ca 0, 60, .inl (fun k => nI (g k)))), (o 4, .inl (ca 0, 93, .inl (upd (upd rd (3 * rm) 61) ((3 * rm) + 1) ((rPr g n i wl).1))))] H := hP
            have hD := zDto (ws := [(o 0, .inr (7, [f0, f1, f2, f3, .ref (o 3), .int (nI n), .int (nI ((rDt g n ((rPr g n i wl).2.1) false 57).2.1)), .int (zb ((rDt g n ((rPr g n i wl).2.1) false 57).2.2)), .ref (o 4), .int (nI rm), f10])), (o 3, .inl (ca 0, 60, .inl (fun k => nI (g k)))), (o 4, .inl (ca 0, 93, .inl (upd (upd rd (3 * rm) 61) ((3 * rm) + 1) ((rPr g n i wl).1))))]) hN hA rfl
            have hzle := rDt_le (g := g) (n := n) (i := ((rPr g n i wl).2.1)) (w := false) (e := 57) (by omega)
            refine z_iast S hK hP hD hS 2 rfl (j := (3 * rm) + 2) (by omega) (by decide) dX7_readsChange_186 (fun H locs hP hS => ?_)
            have hP : va_P D vwCl [(o 0, .inr (7, [f0, f1, f2, f3, .ref (o 3), .int (nI n), .int (nI ((rDt g n ((rPr g n i wl).2.1) false 57).2.1)), .int (zb ((rDt g n ((rPr g n i wl).2.1) false 57).2.2)), .ref (o 4), .int (nI rm), f10])), (o 3, .inl (ca 0, 60, .inl (fun k => nI (g k)))), (o 4, .inl (ca 0, 93, .inl (upd (upd (upd rd (3 * rm) 61) ((3 * rm) + 1) ((rPr g n i wl).1)) ((3 * rm) + 2) ((rDt g n ((rPr g n i wl).2.1) false 57).1))))] H := hP
            have hD := zDto (ws := [(o 0, .inr (7, [f0, f1, f2, f3, .ref (o 3), .int (nI n), .int (nI ((rDt g n ((rPr g n i wl).2.1) false 57).2.1)), .int (zb ((rDt g n ((rPr g n i wl).2.1) false 57).2.2)), .ref (o 4), .int (nI rm), f10])), (o 3, .inl (ca 0, 60, .inl (fun k => nI (g k)))), (o 4, .inl (ca 0, 93, .inl (upd (upd (upd rd (3 * rm) 61) ((3 * rm) + 1) ((rPr g n i wl).1)) ((3 * rm) + 2) ((rDt g n ((rPr g n i wl).2.1) false 57).1))))]) hN hA rfl
            refine lv_aload_n hx hb dX7_readsChange_187 rfl (lv_at hl 3 rfl) ?_
            refine lv_dup hx hb dX7_readsChange_188 rfl ?_
            refine z_get S in_lay_X7 hK hP rfl 0 rfl 9 (by decide) fl_X7_145 rfl rfl dX7_readsChange_189 ?_
            refine lv_aload_n hx hb dX7_readsChange_192 rfl (lv_at hl 3 rfl) ?_
            refine z_get S in_lay_X7 hK hP rfl 0 rfl 7 (by decide) fl_X7_135 rfl rfl dX7_readsChange_193 ?_
            refine zz_eq (tgt := 203) hx hb dX7_readsChange_196 (by decide) (fun c_196_15 => ?_) (fun c_196_15 => ?_)
            · refine lv_iconst (v := 0) hx hb dX7_readsChange_203 (by decide) ?_
              refine zn_add hx hb (x := rm) (y := 0) (z := rm) (by omega) dX7_readsChange_204 ?_
              refine z_put S in_lay_X7 tyX7_ok nmX7 hK hP hD hS rfl 0 rfl 9 (by decide) fl_X7_145 rfl rfl rfl rfl (Nat.le_of_ble_eq_true rfl) dX7_readsChange_205 (fun H locs hP hS => ?_)
              have hP : va_P D vwCl [(o 0, .inr (7, [f0, f1, f2, f3, .ref (o 3), .int (nI n), .int (nI ((rDt g n ((rPr g n i wl).2.1) false 57).2.1)), .int (zb ((rDt g n ((rPr g n i wl).2.1) false 57).2.2)), .ref (o 4), .int (nI rm), f10])), (o 3, .inl (ca 0, 60, .inl (fun k => nI (g k)))), (o 4, .inl (ca 0, 93, .inl (upd (upd (upd rd (3 * rm) 61) ((3 * rm) + 1) ((rPr g n i wl).1)) ((3 * rm) + 2) ((rDt g n ((rPr g n i wl).2.1) false 57).1))))] H := hP
              have hD := zDto (ws := [(o 0, .inr (7, [f0, f1, f2, f3, .ref (o 3), .int (nI n), .int (nI ((rDt g n ((rPr g n i wl).2.1) false 57).2.1)), .int (zb ((rDt g n ((rPr g n i wl).2.1) false 57).2.2)), .ref (o 4), .int (nI rm), f10])), (o 3, .inl (ca 0, 60, .inl (fun k => nI (g k)))), (o 4, .inl (ca 0, 93, .inl (upd (upd (upd rd (3 * rm) 61) ((3 * rm) + 1) ((rPr g n i wl).1)) ((3 * rm) + 2) ((rDt g n ((rPr g n i wl).2.1) false 57).1))))]) hN hA rfl
              have hz : rRc g n i wl rd rm = (((rDt g n ((rPr g n i wl).2.1) false 57).2.1), ((rDt g n ((rPr g n i wl).2.1) false 57).2.2), (upd (upd (upd rd (3 * rm) 61) ((3 * rm) + 1) ((rPr g n i wl).1)) ((3 * rm) + 2) ((rDt g n ((rPr g n i wl).2.1) false 57).1)), rm) := by (conv => lhs; simp only [rRc, rEnd, c_15_1, c_21_6, c_27_11, c_116_12, c_125_14, c_196_15, if_true, if_false, Bool.false_eq_true, Bool.true_and, Bool.false_and, decide_true, decide_false]) <;> first | rfl | simp [c_15_1, c_21_6, c_27_11, c_116_12, c_125_14, c_196_15] | simp [rRc, rEnd, c_15_1, c_21_6, c_27_11, c_116_12, c_125_14, c_196_15]
              exact zw_v hx hb hr hlk hP hS (by rw [hz] <;> rfl) dX7_readsChange_208
            · refine lv_iconst (v := 1) hx hb dX7_readsChange_199 (by decide) ?_
              refine lv_goto (tgt := 204) hx hb dX7_readsChange_200 (by decide) ?_
              refine zn_add hx hb (x := rm) (y := 1) (z := rm + 1) (by omega) dX7_readsChange_204 ?_
              refine z_put S in_lay_X7 tyX7_ok nmX7 hK hP hD hS rfl 0 rfl 9 (by decide) fl_X7_145 rfl rfl rfl rfl (Nat.le_of_ble_eq_true rfl) dX7_readsChange_205 (fun H locs hP hS => ?_)
              have hP : va_P D vwCl [(o 0, .inr (7, [f0, f1, f2, f3, .ref (o 3), .int (nI n), .int (nI ((rDt g n ((rPr g n i wl).2.1) false 57).2.1)), .int (zb ((rDt g n ((rPr g n i wl).2.1) false 57).2.2)), .ref (o 4), .int (nI (rm + 1)), f10])), (o 3, .inl (ca 0, 60, .inl (fun k => nI (g k)))), (o 4, .inl (ca 0, 93, .inl (upd (upd (upd rd (3 * rm) 61) ((3 * rm) + 1) ((rPr g n i wl).1)) ((3 * rm) + 2) ((rDt g n ((rPr g n i wl).2.1) false 57).1))))] H := hP
              have hD := zDto (ws := [(o 0, .inr (7, [f0, f1, f2, f3, .ref (o 3), .int (nI n), .int (nI ((rDt g n ((rPr g n i wl).2.1) false 57).2.1)), .int (zb ((rDt g n ((rPr g n i wl).2.1) false 57).2.2)), .ref (o 4), .int (nI (rm + 1)), f10])), (o 3, .inl (ca 0, 60, .inl (fun k => nI (g k)))), (o 4, .inl (ca 0, 93, .inl (upd (upd (upd rd (3 * rm) 61) ((3 * rm) + 1) ((rPr g n i wl).1)) ((3 * rm) + 2) ((rDt g n ((rPr g n i wl).2.1) false 57).1))))]) hN hA rfl
              have hz : rRc g n i wl rd rm = (((rDt g n ((rPr g n i wl).2.1) false 57).2.1), ((rDt g n ((rPr g n i wl).2.1) false 57).2.2), (upd (upd (upd rd (3 * rm) 61) ((3 * rm) + 1) ((rPr g n i wl).1)) ((3 * rm) + 2) ((rDt g n ((rPr g n i wl).2.1) false 57).1)), (rm + 1)) := by (conv => lhs; simp only [rRc, rEnd, c_15_1, c_21_6, c_27_11, c_116_12, c_125_14, c_196_15, if_true, if_false, Bool.false_eq_true, Bool.true_and, Bool.false_and, decide_true, decide_false]) <;> first | rfl | simp [c_15_1, c_21_6, c_27_11, c_116_12, c_125_14, c_196_15] | simp [rRc, rEnd, c_15_1, c_21_6, c_27_11, c_116_12, c_125_14, c_196_15]
              exact zw_v hx hb hr hlk hP hS (by rw [hz] <;> rfl) dX7_readsChange_208
          · have hzi := zSg_in (g := g) (n := n) (i := (rPr g n i wl).2.1) (by omega)
            refine lv_iconst (v := 1) hx hb dX7_readsChange_128 (by decide) ?_
            refine lv_goto (tgt := 133) hx hb dX7_readsChange_129 (by decide) ?_
            refine z_put S in_lay_X7 tyX7_ok nmX7 hK hP hD hS rfl 0 rfl 7 (by decide) fl_X7_135 rfl rfl rfl rfl (Nat.le_of_ble_eq_true rfl) dX7_readsChange_133 (fun H locs hP hS => ?_)
            have hP : va_P D vwCl [(o 0, .inr (7, [f0, f1, f2, f3, .ref (o 3), .int (nI n), .int (nI ((rPr g n i wl).2.1)), .int (zb true), .ref (o 4), .int (nI rm), f10])), (o 3, .inl (ca 0, 60, .inl (fun k => nI (g k)))), (o 4, .inl (ca 0, 93, .inl (upd (upd rd (3 * rm) 61) ((3 * rm) + 1) ((rPr g n i wl).1))))] H := hP
            have hD := zDto (ws := [(o 0, .inr (7, [f0, f1, f2, f3, .ref (o 3), .int (nI n), .int (nI ((rPr g n i wl).2.1)), .int (zb true), .ref (o 4), .int (nI rm), f10])), (o 3, .inl (ca 0, 60, .inl (fun k => nI (g k)))), (o 4, .inl (ca 0, 93, .inl (upd (upd rd (3 * rm) 61) ((3 * rm) + 1) ((rPr g n i wl).1))))]) hN hA rfl
            refine lv_aload_n hx hb dX7_readsChange_136 rfl (lv_at hl 3 rfl) ?_
            refine lv_dup hx hb dX7_readsChange_137 rfl ?_
            refine z_get S in_lay_X7 hK hP rfl 0 rfl 6 (by decide) fl_X7_132 rfl rfl dX7_readsChange_138 ?_
            refine lv_aload_n hx hb dX7_readsChange_141 rfl (lv_at hl 3 rfl) ?_
            refine z_get S in_lay_X7 hK hP rfl 0 rfl 7 (by decide) fl_X7_135 rfl rfl dX7_readsChange_142 ?_
            refine lv_if_eq (tgt := 152) hx hb dX7_readsChange_145 (by decide) (fun h => absurd h (by decide)) (fun _ => ?_)
            refine lv_iconst (v := 1) hx hb dX7_readsChange_148 (by decide) ?_
            refine lv_goto (tgt := 153) hx hb dX7_readsChange_149 (by decide) ?_
            refine zn_add hx hb (x := (rPr g n i wl).2.1) (y := 1) (z := ((rPr g n i wl).2.1) + 1) (by omega) dX7_readsChange_153 ?_
            refine z_put S in_lay_X7 tyX7_ok nmX7 hK hP hD hS rfl 0 rfl 6 (by decide) fl_X7_132 rfl rfl rfl rfl (Nat.le_of_ble_eq_true rfl) dX7_readsChange_154 (fun H locs hP hS => ?_)
            have hP : va_P D vwCl [(o 0, .inr (7, [f0, f1, f2, f3, .ref (o 3), .int (nI n), .int (nI (((rPr g n i wl).2.1) + 1)), .int (zb true), .ref (o 4), .int (nI rm), f10])), (o 3, .inl (ca 0, 60, .inl (fun k => nI (g k)))), (o 4, .inl (ca 0, 93, .inl (upd (upd rd (3 * rm) 61) ((3 * rm) + 1) ((rPr g n i wl).1))))] H := hP
            have hD := zDto (ws := [(o 0, .inr (7, [f0, f1, f2, f3, .ref (o 3), .int (nI n), .int (nI (((rPr g n i wl).2.1) + 1)), .int (zb true), .ref (o 4), .int (nI rm), f10])), (o 3, .inl (ca 0, 60, .inl (fun k => nI (g k)))), (o 4, .inl (ca 0, 93, .inl (upd (upd rd (3 * rm) 61) ((3 * rm) + 1) ((rPr g n i wl).1))))]) hN hA rfl
            refine lv_aload_n hx hb dX7_readsChange_157 rfl (lv_at hl 3 rfl) ?_
            refine z_get S in_lay_X7 hK hP rfl 0 rfl 8 (by decide) fl_X7_19 rfl rfl dX7_readsChange_158 ?_
            refine lv_iload_n hx hb dX7_readsChange_161 rfl (lv_at hl 2 rfl) ?_
            refine lv_iconst (v := 2) hx hb dX7_readsChange_162 (by decide) ?_
            refine zn_add hx hb (x := 3 * rm) (y := 2) (z := (3 * rm) + 2) (by omega) dX7_readsChange_163 ?_
            refine lv_iload_n hx hb dX7_readsChange_164 rfl (lv_at hl 1 rfl) ?_
            refine lv_bipush (v := 45) hx hb dX7_readsChange_165 (by decide) ?_
            refine zn_eq hx hb (x := zSg g n i) (y := 45) (by omega) (by omega) (tgt := 176) dX7_readsChange_167 (by decide) (fun h => absurd h (by omega)) (fun _ => ?_)
            refine lv_iload_n hx hb dX7_readsChange_170 rfl (lv_at hl 1 rfl) ?_
            refine lv_bipush (v := 126) hx hb dX7_readsChange_171 (by decide) ?_
            refine zn_ne hx hb (x := zSg g n i) (y := 126) (by omega) (by omega) (tgt := 180) dX7_readsChange_173 (by decide) (fun _ => ?_) (fun h => absurd h (by omega))
            refine lv_aload_n hx hb dX7_readsChange_180 rfl (lv_at hl 3 rfl) ?_
            refine lv_bipush (v := 57) hx hb dX7_readsChange_181 (by decide) ?_
            refine zcw (As := [.int 57]) (rest := [.int (nI ((3 * rm) + 2)), .ref (o 4)]) (st1 := [.int ((rDt g n (((rPr g n i wl).2.1) + 1) true 57).1), .int (nI ((3 * rm) + 2)), .ref (o 4)]) (q0 := 0) (lw := [o 0, o 3]) S (c_X7_digit l D ca o f0 f1 f2 f3 (.ref (o 4)) (.int (nI rm)) f10 n (((rPr g n i wl).2.1) + 1) true g (by first | assumption | omega) (by first | assumption | omega) (by first | assumption | omega) 57 (znd_pick hN [0, 1] rfl rfl)) ml_X7_142 zy_X7_digit im_X7_digit se_X7_digit ⟨Nat.le_of_ble_eq_true rfl, Nat.le_of_ble_eq_true rfl⟩ hK hP hD hS [0, 1] rfl rfl rfl rfl rfl rfl rfl hl.1 rfl rfl (Nat.le_of_ble_eq_true rfl) ⟨Nat.zero_le _, Nat.zero_le _⟩ dX7_readsChange_183 (fun H locs hP hS => ?_)
            have hP : va_P D vwCl [(o 0, .inr (7, [f0, f1, f2, f3, .ref (o 3), .int (nI n), .int (nI ((rDt g n (((rPr g n i wl).2.1) + 1) true 57).2.1)), .int (zb ((rDt g n (((rPr g n i wl).2.1) + 1) true 57).2.2)), .ref (o 4), .int (nI rm), f10])), (o 3, .inl (ca 0, 60, .inl (fun k => nI (g k)))), (o 4, .inl (ca 0, 93, .inl (upd (upd rd (3 * rm) 61) ((3 * rm) + 1) ((rPr g n i wl).1))))] H := hP
            have hD := zDto (ws := [(o 0, .inr (7, [f0, f1, f2, f3, .ref (o 3), .int (nI n), .int (nI ((rDt g n (((rPr g n i wl).2.1) + 1) true 57).2.1)), .int (zb ((rDt g n (((rPr g n i wl).2.1) + 1) true 57).2.2)), .ref (o 4), .int (nI rm), f10])), (o 3, .inl (ca 0, 60, .inl (fun k => nI (g k)))), (o 4, .inl (ca 0, 93, .inl (upd (upd rd (3 * rm) 61) ((3 * rm) + 1) ((rPr g n i wl).1))))]) hN hA rfl
            have hzle := rDt_le (g := g) (n := n) (i := (((rPr g n i wl).2.1) + 1)) (w := true) (e := 57) (by omega)
            refine z_iast S hK hP hD hS 2 rfl (j := (3 * rm) + 2) (by omega) (by decide) dX7_readsChange_186 (fun H locs hP hS => ?_)
            have hP : va_P D vwCl [(o 0, .inr (7, [f0, f1, f2, f3, .ref (o 3), .int (nI n), .int (nI ((rDt g n (((rPr g n i wl).2.1) + 1) true 57).2.1)), .int (zb ((rDt g n (((rPr g n i wl).2.1) + 1) true 57).2.2)), .ref (o 4), .int (nI rm), f10])), (o 3, .inl (ca 0, 60, .inl (fun k => nI (g k)))), (o 4, .inl (ca 0, 93, .inl (upd (upd (upd rd (3 * rm) 61) ((3 * rm) + 1) ((rPr g n i wl).1)) ((3 * rm) + 2) ((rDt g n (((rPr g n i wl).2.1) + 1) true 57).1))))] H := hP
            have hD := zDto (ws := [(o 0, .inr (7, [f0, f1, f2, f3, .ref (o 3), .int (nI n), .int (nI ((rDt g n (((rPr g n i wl).2.1) + 1) true 57).2.1)), .int (zb ((rDt g n (((rPr g n i wl).2.1) + 1) true 57).2.2)), .ref (o 4), .int (nI rm), f10])), (o 3, .inl (ca 0, 60, .inl (fun k => nI (g k)))), (o 4, .inl (ca 0, 93, .inl (upd (upd (upd rd (3 * rm) 61) ((3 * rm) + 1) ((rPr g n i wl).1)) ((3 * rm) + 2) ((rDt g n (((rPr g n i wl).2.1) + 1) true 57).1))))]) hN hA rfl
            refine lv_aload_n hx hb dX7_readsChange_187 rfl (lv_at hl 3 rfl) ?_
            refine lv_dup hx hb dX7_readsChange_188 rfl ?_
            refine z_get S in_lay_X7 hK hP rfl 0 rfl 9 (by decide) fl_X7_145 rfl rfl dX7_readsChange_189 ?_
            refine lv_aload_n hx hb dX7_readsChange_192 rfl (lv_at hl 3 rfl) ?_
            refine z_get S in_lay_X7 hK hP rfl 0 rfl 7 (by decide) fl_X7_135 rfl rfl dX7_readsChange_193 ?_
            refine zz_eq (tgt := 203) hx hb dX7_readsChange_196 (by decide) (fun c_196_16 => ?_) (fun c_196_16 => ?_)
            · refine lv_iconst (v := 0) hx hb dX7_readsChange_203 (by decide) ?_
              refine zn_add hx hb (x := rm) (y := 0) (z := rm) (by omega) dX7_readsChange_204 ?_
              refine z_put S in_lay_X7 tyX7_ok nmX7 hK hP hD hS rfl 0 rfl 9 (by decide) fl_X7_145 rfl rfl rfl rfl (Nat.le_of_ble_eq_true rfl) dX7_readsChange_205 (fun H locs hP hS => ?_)
              have hP : va_P D vwCl [(o 0, .inr (7, [f0, f1, f2, f3, .ref (o 3), .int (nI n), .int (nI ((rDt g n (((rPr g n i wl).2.1) + 1) true 57).2.1)), .int (zb ((rDt g n (((rPr g n i wl).2.1) + 1) true 57).2.2)), .ref (o 4), .int (nI rm), f10])), (o 3, .inl (ca 0, 60, .inl (fun k => nI (g k)))), (o 4, .inl (ca 0, 93, .inl (upd (upd (upd rd (3 * rm) 61) ((3 * rm) + 1) ((rPr g n i wl).1)) ((3 * rm) + 2) ((rDt g n (((rPr g n i wl).2.1) + 1) true 57).1))))] H := hP
              have hD := zDto (ws := [(o 0, .inr (7, [f0, f1, f2, f3, .ref (o 3), .int (nI n), .int (nI ((rDt g n (((rPr g n i wl).2.1) + 1) true 57).2.1)), .int (zb ((rDt g n (((rPr g n i wl).2.1) + 1) true 57).2.2)), .ref (o 4), .int (nI rm), f10])), (o 3, .inl (ca 0, 60, .inl (fun k => nI (g k)))), (o 4, .inl (ca 0, 93, .inl (upd (upd (upd rd (3 * rm) 61) ((3 * rm) + 1) ((rPr g n i wl).1)) ((3 * rm) + 2) ((rDt g n (((rPr g n i wl).2.1) + 1) true 57).1))))]) hN hA rfl
              have hz : rRc g n i wl rd rm = (((rDt g n (((rPr g n i wl).2.1) + 1) true 57).2.1), ((rDt g n (((rPr g n i wl).2.1) + 1) true 57).2.2), (upd (upd (upd rd (3 * rm) 61) ((3 * rm) + 1) ((rPr g n i wl).1)) ((3 * rm) + 2) ((rDt g n (((rPr g n i wl).2.1) + 1) true 57).1)), rm) := by (conv => lhs; simp only [rRc, rEnd, c_15_1, c_21_6, c_27_11, c_116_12, c_125_14, c_196_16, if_true, if_false, Bool.false_eq_true, Bool.true_and, Bool.false_and, decide_true, decide_false]) <;> first | rfl | simp [c_15_1, c_21_6, c_27_11, c_116_12, c_125_14, c_196_16] | simp [rRc, rEnd, c_15_1, c_21_6, c_27_11, c_116_12, c_125_14, c_196_16]
              exact zw_v hx hb hr hlk hP hS (by rw [hz] <;> rfl) dX7_readsChange_208
            · refine lv_iconst (v := 1) hx hb dX7_readsChange_199 (by decide) ?_
              refine lv_goto (tgt := 204) hx hb dX7_readsChange_200 (by decide) ?_
              refine zn_add hx hb (x := rm) (y := 1) (z := rm + 1) (by omega) dX7_readsChange_204 ?_
              refine z_put S in_lay_X7 tyX7_ok nmX7 hK hP hD hS rfl 0 rfl 9 (by decide) fl_X7_145 rfl rfl rfl rfl (Nat.le_of_ble_eq_true rfl) dX7_readsChange_205 (fun H locs hP hS => ?_)
              have hP : va_P D vwCl [(o 0, .inr (7, [f0, f1, f2, f3, .ref (o 3), .int (nI n), .int (nI ((rDt g n (((rPr g n i wl).2.1) + 1) true 57).2.1)), .int (zb ((rDt g n (((rPr g n i wl).2.1) + 1) true 57).2.2)), .ref (o 4), .int (nI (rm + 1)), f10])), (o 3, .inl (ca 0, 60, .inl (fun k => nI (g k)))), (o 4, .inl (ca 0, 93, .inl (upd (upd (upd rd (3 * rm) 61) ((3 * rm) + 1) ((rPr g n i wl).1)) ((3 * rm) + 2) ((rDt g n (((rPr g n i wl).2.1) + 1) true 57).1))))] H := hP
              have hD := zDto (ws := [(o 0, .inr (7, [f0, f1, f2, f3, .ref (o 3), .int (nI n), .int (nI ((rDt g n (((rPr g n i wl).2.1) + 1) true 57).2.1)), .int (zb ((rDt g n (((rPr g n i wl).2.1) + 1) true 57).2.2)), .ref (o 4), .int (nI (rm + 1)), f10])), (o 3, .inl (ca 0, 60, .inl (fun k => nI (g k)))), (o 4, .inl (ca 0, 93, .inl (upd (upd (upd rd (3 * rm) 61) ((3 * rm) + 1) ((rPr g n i wl).1)) ((3 * rm) + 2) ((rDt g n (((rPr g n i wl).2.1) + 1) true 57).1))))]) hN hA rfl
              have hz : rRc g n i wl rd rm = (((rDt g n (((rPr g n i wl).2.1) + 1) true 57).2.1), ((rDt g n (((rPr g n i wl).2.1) + 1) true 57).2.2), (upd (upd (upd rd (3 * rm) 61) ((3 * rm) + 1) ((rPr g n i wl).1)) ((3 * rm) + 2) ((rDt g n (((rPr g n i wl).2.1) + 1) true 57).1)), (rm + 1)) := by (conv => lhs; simp only [rRc, rEnd, c_15_1, c_21_6, c_27_11, c_116_12, c_125_14, c_196_16, if_true, if_false, Bool.false_eq_true, Bool.true_and, Bool.false_and, decide_true, decide_false]) <;> first | rfl | simp [c_15_1, c_21_6, c_27_11, c_116_12, c_125_14, c_196_16] | simp [rRc, rEnd, c_15_1, c_21_6, c_27_11, c_116_12, c_125_14, c_196_16]
              exact zw_v hx hb hr hlk hP hS (by rw [hz] <;> rfl) dX7_readsChange_208
      · have hzi := zSg_in (g := g) (n := n) (i := i) (by omega)
        refine lv_iconst (v := 1) hx hb dX7_readsChange_30 (by decide) ?_
        refine lv_goto (tgt := 35) hx hb dX7_readsChange_31 (by decide) ?_
        refine lv_istore_n (lv' := [(3, .int 1), (2, .int (nI (zSg g n i))), (1, .int (nI (3 * rm))), (0, .ref (o 0))]) hx hb dX7_readsChange_35 rfl hl (by decide) rfl (fun ls hl => ?_)
        refine lv_aload_n hx hb dX7_readsChange_36 rfl (lv_at hl 3 rfl) ?_
        refine lv_dup hx hb dX7_readsChange_37 rfl ?_
        refine z_get S in_lay_X7 hK hP rfl 0 rfl 6 (by decide) fl_X7_132 rfl rfl dX7_readsChange_38 ?_
        refine lv_iload_n hx hb dX7_readsChange_41 rfl (lv_at hl 0 rfl) ?_
        refine lv_if_eq (tgt := 49) hx hb dX7_readsChange_42 (by decide) (fun h => absurd h (by decide)) (fun _ => ?_)
        refine lv_iconst (v := 1) hx hb dX7_readsChange_45 (by decide) ?_
        refine lv_goto (tgt := 50) hx hb dX7_readsChange_46 (by decide) ?_
        refine zn_add hx hb (x := i) (y := 1) (z := i + 1) (by omega) dX7_readsChange_50 ?_
        refine z_put S in_lay_X7 tyX7_ok nmX7 hK hP hD hS rfl 0 rfl 6 (by decide) fl_X7_132 rfl rfl rfl rfl (Nat.le_of_ble_eq_true rfl) dX7_readsChange_51 (fun H locs hP hS => ?_)
        have hP : va_P D vwCl [(o 0, .inr (7, [f0, f1, f2, f3, .ref (o 3), .int (nI n), .int (nI (i + 1)), .int (zb wl), .ref (o 4), .int (nI rm), f10])), (o 3, .inl (ca 0, 60, .inl (fun k => nI (g k)))), (o 4, .inl (ca 0, 93, .inl rd))] H := hP
        have hD := zDto (ws := [(o 0, .inr (7, [f0, f1, f2, f3, .ref (o 3), .int (nI n), .int (nI (i + 1)), .int (zb wl), .ref (o 4), .int (nI rm), f10])), (o 3, .inl (ca 0, 60, .inl (fun k => nI (g k)))), (o 4, .inl (ca 0, 93, .inl rd))]) hN hA rfl
        refine lv_aload_n hx hb dX7_readsChange_54 rfl (lv_at hl 3 rfl) ?_
        refine z_get S in_lay_X7 hK hP rfl 0 rfl 8 (by decide) fl_X7_19 rfl rfl dX7_readsChange_55 ?_
        refine lv_iload_n hx hb dX7_readsChange_58 rfl (lv_at hl 2 rfl) ?_
        refine lv_iload_n hx hb dX7_readsChange_59 rfl (lv_at hl 0 rfl) ?_
        refine lv_if_eq (tgt := 67) hx hb dX7_readsChange_60 (by decide) (fun h => absurd h (by decide)) (fun _ => ?_)
        refine lv_iload_n hx hb dX7_readsChange_63 rfl (lv_at hl 1 rfl) ?_
        refine lv_goto (tgt := 69) hx hb dX7_readsChange_64 (by decide) ?_
        refine z_iast S hK hP hD hS 2 rfl (j := 3 * rm) (by omega) (by decide) dX7_readsChange_69 (fun H locs hP hS => ?_)
        have hP : va_P D vwCl [(o 0, .inr (7, [f0, f1, f2, f3, .ref (o 3), .int (nI n), .int (nI (i + 1)), .int (zb wl), .ref (o 4), .int (nI rm), f10])), (o 3, .inl (ca 0, 60, .inl (fun k => nI (g k)))), (o 4, .inl (ca 0, 93, .inl (upd rd (3 * rm) (nI (zSg g n i)))))] H := hP
        have hD := zDto (ws := [(o 0, .inr (7, [f0, f1, f2, f3, .ref (o 3), .int (nI n), .int (nI (i + 1)), .int (zb wl), .ref (o 4), .int (nI rm), f10])), (o 3, .inl (ca 0, 60, .inl (fun k => nI (g k)))), (o 4, .inl (ca 0, 93, .inl (upd rd (3 * rm) (nI (zSg g n i)))))]) hN hA rfl
        refine lv_aload_n hx hb dX7_readsChange_70 rfl (lv_at hl 3 rfl) ?_
        refine z_get S in_lay_X7 hK hP rfl 0 rfl 8 (by decide) fl_X7_19 rfl rfl dX7_readsChange_71 ?_
        refine lv_iload_n hx hb dX7_readsChange_74 rfl (lv_at hl 2 rfl) ?_
        refine lv_iconst (v := 1) hx hb dX7_readsChange_75 (by decide) ?_
        refine zn_add hx hb (x := 3 * rm) (y := 1) (z := (3 * rm) + 1) (by omega) dX7_readsChange_76 ?_
        refine lv_iload_n hx hb dX7_readsChange_77 rfl (lv_at hl 1 rfl) ?_
        refine lv_bipush (v := 43) hx hb dX7_readsChange_78 (by decide) ?_
        refine zn_ne hx hb (x := zSg g n i) (y := 43) (by omega) (by omega) (tgt := 87) dX7_readsChange_80 (by decide) (fun c_80_17 => ?_) (fun h => False.elim (by omega))
        refine lv_iload_n hx hb dX7_readsChange_87 rfl (lv_at hl 1 rfl) ?_
        refine lv_bipush (v := 126) hx hb dX7_readsChange_88 (by decide) ?_
        refine zn_ne hx hb (x := zSg g n i) (y := 126) (by omega) (by omega) (tgt := 102) dX7_readsChange_90 (by decide) (fun h => False.elim (by omega)) (fun c_90_18 => ?_)
        refine lv_aload_n hx hb dX7_readsChange_93 rfl (lv_at hl 3 rfl) ?_
        refine lv_bipush (v := 53) hx hb dX7_readsChange_94 (by decide) ?_
        refine zcw (As := [.int 53]) (rest := [.int (nI ((3 * rm) + 1)), .ref (o 4)]) (st1 := [.int ((rDt g n (i + 1) wl 53).1), .int (nI ((3 * rm) + 1)), .ref (o 4)]) (q0 := 0) (lw := [o 0, o 3]) S (c_X7_digit l D ca o f0 f1 f2 f3 (.ref (o 4)) (.int (nI rm)) f10 n (i + 1) wl g (by first | assumption | omega) (by first | assumption | omega) (by first | assumption | omega) 53 (znd_pick hN [0, 1] rfl rfl)) ml_X7_142 zy_X7_digit im_X7_digit se_X7_digit ⟨Nat.le_of_ble_eq_true rfl, Nat.le_of_ble_eq_true rfl⟩ hK hP hD hS [0, 1] rfl rfl rfl rfl rfl rfl rfl hl.1 rfl rfl (Nat.le_of_ble_eq_true rfl) ⟨Nat.zero_le _, Nat.zero_le _⟩ dX7_readsChange_96 (fun H locs hP hS => ?_)
        have hP : va_P D vwCl [(o 0, .inr (7, [f0, f1, f2, f3, .ref (o 3), .int (nI n), .int (nI ((rDt g n (i + 1) wl 53).2.1)), .int (zb ((rDt g n (i + 1) wl 53).2.2)), .ref (o 4), .int (nI rm), f10])), (o 3, .inl (ca 0, 60, .inl (fun k => nI (g k)))), (o 4, .inl (ca 0, 93, .inl (upd rd (3 * rm) (nI (zSg g n i)))))] H := hP
        have hD := zDto (ws := [(o 0, .inr (7, [f0, f1, f2, f3, .ref (o 3), .int (nI n), .int (nI ((rDt g n (i + 1) wl 53).2.1)), .int (zb ((rDt g n (i + 1) wl 53).2.2)), .ref (o 4), .int (nI rm), f10])), (o 3, .inl (ca 0, 60, .inl (fun k => nI (g k)))), (o 4, .inl (ca 0, 93, .inl (upd rd (3 * rm) (nI (zSg g n i)))))]) hN hA rfl
        have hzle := rDt_le (g := g) (n := n) (i := (i + 1)) (w := wl) (e := 53) (by omega)
        refine lv_goto (tgt := 106) hx hb dX7_readsChange_99 (by decide) ?_
        refine z_iast S hK hP hD hS 2 rfl (j := (3 * rm) + 1) (by omega) (by decide) dX7_readsChange_106 (fun H locs hP hS => ?_)
        have hP : va_P D vwCl [(o 0, .inr (7, [f0, f1, f2, f3, .ref (o 3), .int (nI n), .int (nI ((rDt g n (i + 1) wl 53).2.1)), .int (zb ((rDt g n (i + 1) wl 53).2.2)), .ref (o 4), .int (nI rm), f10])), (o 3, .inl (ca 0, 60, .inl (fun k => nI (g k)))), (o 4, .inl (ca 0, 93, .inl (upd (upd rd (3 * rm) (nI (zSg g n i))) ((3 * rm) + 1) ((rDt g n (i + 1) wl 53).1))))] H := hP
        have hD := zDto (ws := [(o 0, .inr (7, [f0, f1, f2, f3, .ref (o 3), .int (nI n), .int (nI ((rDt g n (i + 1) wl 53).2.1)), .int (zb ((rDt g n (i + 1) wl 53).2.2)), .ref (o 4), .int (nI rm), f10])), (o 3, .inl (ca 0, 60, .inl (fun k => nI (g k)))), (o 4, .inl (ca 0, 93, .inl (upd (upd rd (3 * rm) (nI (zSg g n i))) ((3 * rm) + 1) ((rDt g n (i + 1) wl 53).1))))]) hN hA rfl
        refine lv_iload_n hx hb dX7_readsChange_107 rfl (lv_at hl 0 rfl) ?_
        refine lv_if_ne (tgt := 157) hx hb dX7_readsChange_108 (by decide) (fun _ => ?_) (fun h => absurd h (by decide))
        refine lv_aload_n hx hb dX7_readsChange_157 rfl (lv_at hl 3 rfl) ?_
        refine z_get S in_lay_X7 hK hP rfl 0 rfl 8 (by decide) fl_X7_19 rfl rfl dX7_readsChange_158 ?_
        refine lv_iload_n hx hb dX7_readsChange_161 rfl (lv_at hl 2 rfl) ?_
        refine lv_iconst (v := 2) hx hb dX7_readsChange_162 (by decide) ?_
        refine zn_add hx hb (x := 3 * rm) (y := 2) (z := (3 * rm) + 2) (by omega) dX7_readsChange_163 ?_
        refine lv_iload_n hx hb dX7_readsChange_164 rfl (lv_at hl 1 rfl) ?_
        refine lv_bipush (v := 45) hx hb dX7_readsChange_165 (by decide) ?_
        refine zn_eq hx hb (x := zSg g n i) (y := 45) (by omega) (by omega) (tgt := 176) dX7_readsChange_167 (by decide) (fun h => False.elim (by omega)) (fun c_167_19 => ?_)
        refine lv_iload_n hx hb dX7_readsChange_170 rfl (lv_at hl 1 rfl) ?_
        refine lv_bipush (v := 126) hx hb dX7_readsChange_171 (by decide) ?_
        refine zn_ne hx hb (x := zSg g n i) (y := 126) (by omega) (by omega) (tgt := 180) dX7_readsChange_173 (by decide) (fun h => False.elim (by omega)) (fun c_173_20 => ?_)
        refine lv_iconst (v := 0) hx hb dX7_readsChange_176 (by decide) ?_
        refine lv_goto (tgt := 186) hx hb dX7_readsChange_177 (by decide) ?_
        refine z_iast S hK hP hD hS 2 rfl (j := (3 * rm) + 2) (by omega) (by decide) dX7_readsChange_186 (fun H locs hP hS => ?_)
        have hP : va_P D vwCl [(o 0, .inr (7, [f0, f1, f2, f3, .ref (o 3), .int (nI n), .int (nI ((rDt g n (i + 1) wl 53).2.1)), .int (zb ((rDt g n (i + 1) wl 53).2.2)), .ref (o 4), .int (nI rm), f10])), (o 3, .inl (ca 0, 60, .inl (fun k => nI (g k)))), (o 4, .inl (ca 0, 93, .inl (upd (upd (upd rd (3 * rm) (nI (zSg g n i))) ((3 * rm) + 1) ((rDt g n (i + 1) wl 53).1)) ((3 * rm) + 2) 0)))] H := hP
        have hD := zDto (ws := [(o 0, .inr (7, [f0, f1, f2, f3, .ref (o 3), .int (nI n), .int (nI ((rDt g n (i + 1) wl 53).2.1)), .int (zb ((rDt g n (i + 1) wl 53).2.2)), .ref (o 4), .int (nI rm), f10])), (o 3, .inl (ca 0, 60, .inl (fun k => nI (g k)))), (o 4, .inl (ca 0, 93, .inl (upd (upd (upd rd (3 * rm) (nI (zSg g n i))) ((3 * rm) + 1) ((rDt g n (i + 1) wl 53).1)) ((3 * rm) + 2) 0)))]) hN hA rfl
        refine lv_aload_n hx hb dX7_readsChange_187 rfl (lv_at hl 3 rfl) ?_
        refine lv_dup hx hb dX7_readsChange_188 rfl ?_
        refine z_get S in_lay_X7 hK hP rfl 0 rfl 9 (by decide) fl_X7_145 rfl rfl dX7_readsChange_189 ?_
        refine lv_aload_n hx hb dX7_readsChange_192 rfl (lv_at hl 3 rfl) ?_
        refine z_get S in_lay_X7 hK hP rfl 0 rfl 7 (by decide) fl_X7_135 rfl rfl dX7_readsChange_193 ?_
        refine zz_eq (tgt := 203) hx hb dX7_readsChange_196 (by decide) (fun c_196_21 => ?_) (fun c_196_21 => ?_)
        · refine lv_iconst (v := 0) hx hb dX7_readsChange_203 (by decide) ?_
          refine zn_add hx hb (x := rm) (y := 0) (z := rm) (by omega) dX7_readsChange_204 ?_
          refine z_put S in_lay_X7 tyX7_ok nmX7 hK hP hD hS rfl 0 rfl 9 (by decide) fl_X7_145 rfl rfl rfl rfl (Nat.le_of_ble_eq_true rfl) dX7_readsChange_205 (fun H locs hP hS => ?_)
          have hP : va_P D vwCl [(o 0, .inr (7, [f0, f1, f2, f3, .ref (o 3), .int (nI n), .int (nI ((rDt g n (i + 1) wl 53).2.1)), .int (zb ((rDt g n (i + 1) wl 53).2.2)), .ref (o 4), .int (nI rm), f10])), (o 3, .inl (ca 0, 60, .inl (fun k => nI (g k)))), (o 4, .inl (ca 0, 93, .inl (upd (upd (upd rd (3 * rm) (nI (zSg g n i))) ((3 * rm) + 1) ((rDt g n (i + 1) wl 53).1)) ((3 * rm) + 2) 0)))] H := hP
          have hD := zDto (ws := [(o 0, .inr (7, [f0, f1, f2, f3, .ref (o 3), .int (nI n), .int (nI ((rDt g n (i + 1) wl 53).2.1)), .int (zb ((rDt g n (i + 1) wl 53).2.2)), .ref (o 4), .int (nI rm), f10])), (o 3, .inl (ca 0, 60, .inl (fun k => nI (g k)))), (o 4, .inl (ca 0, 93, .inl (upd (upd (upd rd (3 * rm) (nI (zSg g n i))) ((3 * rm) + 1) ((rDt g n (i + 1) wl 53).1)) ((3 * rm) + 2) 0)))]) hN hA rfl
          have hz : rRc g n i wl rd rm = (((rDt g n (i + 1) wl 53).2.1), ((rDt g n (i + 1) wl 53).2.2), (upd (upd (upd rd (3 * rm) (nI (zSg g n i))) ((3 * rm) + 1) ((rDt g n (i + 1) wl 53).1)) ((3 * rm) + 2) 0), rm) := by (conv => lhs; simp only [rRc, rEnd, c_15_1, c_21_6, c_27_11, c_80_17, c_90_18, c_167_19, c_173_20, c_196_21, if_true, if_false, Bool.false_eq_true, Bool.true_and, Bool.false_and, decide_true, decide_false]) <;> first | rfl | simp [c_15_1, c_21_6, c_27_11, c_80_17, c_90_18, c_167_19, c_173_20, c_196_21] | simp [rRc, rEnd, c_15_1, c_21_6, c_27_11, c_80_17, c_90_18, c_167_19, c_173_20, c_196_21]
          exact zw_v hx hb hr hlk hP hS (by rw [hz] <;> rfl) dX7_readsChange_208
        · refine lv_iconst (v := 1) hx hb dX7_readsChange_199 (by decide) ?_
          refine lv_goto (tgt := 204) hx hb dX7_readsChange_200 (by decide) ?_
          refine zn_add hx hb (x := rm) (y := 1) (z := rm + 1) (by omega) dX7_readsChange_204 ?_
          refine z_put S in_lay_X7 tyX7_ok nmX7 hK hP hD hS rfl 0 rfl 9 (by decide) fl_X7_145 rfl rfl rfl rfl (Nat.le_of_ble_eq_true rfl) dX7_readsChange_205 (fun H locs hP hS => ?_)
          have hP : va_P D vwCl [(o 0, .inr (7, [f0, f1, f2, f3, .ref (o 3), .int (nI n), .int (nI ((rDt g n (i + 1) wl 53).2.1)), .int (zb ((rDt g n (i + 1) wl 53).2.2)), .ref (o 4), .int (nI (rm + 1)), f10])), (o 3, .inl (ca 0, 60, .inl (fun k => nI (g k)))), (o 4, .inl (ca 0, 93, .inl (upd (upd (upd rd (3 * rm) (nI (zSg g n i))) ((3 * rm) + 1) ((rDt g n (i + 1) wl 53).1)) ((3 * rm) + 2) 0)))] H := hP
          have hD := zDto (ws := [(o 0, .inr (7, [f0, f1, f2, f3, .ref (o 3), .int (nI n), .int (nI ((rDt g n (i + 1) wl 53).2.1)), .int (zb ((rDt g n (i + 1) wl 53).2.2)), .ref (o 4), .int (nI (rm + 1)), f10])), (o 3, .inl (ca 0, 60, .inl (fun k => nI (g k)))), (o 4, .inl (ca 0, 93, .inl (upd (upd (upd rd (3 * rm) (nI (zSg g n i))) ((3 * rm) + 1) ((rDt g n (i + 1) wl 53).1)) ((3 * rm) + 2) 0)))]) hN hA rfl
          have hz : rRc g n i wl rd rm = (((rDt g n (i + 1) wl 53).2.1), ((rDt g n (i + 1) wl 53).2.2), (upd (upd (upd rd (3 * rm) (nI (zSg g n i))) ((3 * rm) + 1) ((rDt g n (i + 1) wl 53).1)) ((3 * rm) + 2) 0), (rm + 1)) := by (conv => lhs; simp only [rRc, rEnd, c_15_1, c_21_6, c_27_11, c_80_17, c_90_18, c_167_19, c_173_20, c_196_21, if_true, if_false, Bool.false_eq_true, Bool.true_and, Bool.false_and, decide_true, decide_false]) <;> first | rfl | simp [c_15_1, c_21_6, c_27_11, c_80_17, c_90_18, c_167_19, c_173_20, c_196_21] | simp [rRc, rEnd, c_15_1, c_21_6, c_27_11, c_80_17, c_90_18, c_167_19, c_173_20, c_196_21]
          exact zw_v hx hb hr hlk hP hS (by rw [hz] <;> rfl) dX7_readsChange_208
