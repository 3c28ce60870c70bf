set_option maxHeartbeats 4000000 in
set_option maxRecDepth 100000 in
theorem c_X7_readsAll (l : Launch) (D : va_G) (ca : Nat → ClassId) (o : Nat → Nat) (f0 f1 f2 f3 f10 : Value) (n : Nat) (i : Nat) (wl : Bool) (rm : Nat) (g : Nat → Nat) (rd : Nat → Int32) (h0 : n ≤ 60) (h1 : ∀ k, g k < 128)  (hN : [o 0, o 3, o 4].Nodup) : zMw l yX7_readsAll cX7_readsAll 1 none 4 88 D ca [(o 0, .inr (7, [f0, f1, f2, f3, .ref (o 3), .int (nI n), .int (nI i), .int (zb wl), .ref (o 4), .int (nI rm), f10])), (o 3, .inl (ca 0, 60, .inl (fun k => nI (g k)))), (o 4, .inl (ca 0, 93, .inl rd))] ([(o 0, .inr (7, [f0, f1, f2, f3, .ref (o 3), .int (nI n), .int (nI ((rRa g n rd).1)), .int (zb ((rRa g n rd).2.1)), .ref (o 4), .int (nI ((rRa g n rd).2.2.2)), f10])), (o 3, .inl (ca 0, 60, .inl (fun k => nI (g k)))), (o 4, .inl (ca 0, 93, .inl ((rRa g n rd).2.2.1)))]) [.ref (o 0)] none := by
  refine zMw_of (own := RX7) (by decide) rfl (Nat.le_of_ble_eq_true rfl) ?_
  intro p e s m args below meth c ls S hr hlk hP hK hl hS
  have hP : va_P D vwCl [(o 0, .inr (7, [f0, f1, f2, f3, .ref (o 3), .int (nI n), .int (nI i), .int (zb wl), .ref (o 4), .int (nI rm), f10])), (o 3, .inl (ca 0, 60, .inl (fun k => nI (g k)))), (o 4, .inl (ca 0, 93, .inl rd))] s.heap := hP
  have hS : va_S (zA [o 0, o 3, o 4]) s.heap s.heap [] := hS
  have hA : ∀ q ∈ [o 0, o 3, o 4], zA [o 0, o 3, o 4] q := fun _ h => h
  have hD := zDto (ws := [(o 0, .inr (7, [f0, f1, f2, f3, .ref (o 3), .int (nI n), .int (nI i), .int (zb wl), .ref (o 4), .int (nI rm), f10])), (o 3, .inl (ca 0, 60, .inl (fun k => nI (g k)))), (o 4, .inl (ca 0, 93, .inl rd))]) hN hA rfl
  have hx := S.1
  have hb := S.2.1
  have hl : lv_has ls 1 [(0, .ref (o 0))] := hl
  refine lv_aload_n hx hb dX7_readsAll_0 rfl (lv_at hl 0 rfl) ?_
  refine lv_iconst (v := 0) hx hb dX7_readsAll_1 (by decide) ?_
  refine z_put S in_lay_X7 tyX7_ok nmX7 hK hP hD hS rfl 0 rfl 6 (by decide) fl_X7_132 rfl rfl rfl rfl (Nat.le_of_ble_eq_true rfl) dX7_readsAll_2 (fun H locs hP hS => ?_)
  have hP : va_P D vwCl [(o 0, .inr (7, [f0, f1, f2, f3, .ref (o 3), .int (nI n), .int 0, .int (zb wl), .ref (o 4), .int (nI rm), f10])), (o 3, .inl (ca 0, 60, .inl (fun k => nI (g k)))), (o 4, .inl (ca 0, 93, .inl rd))] H := hP
  have hD := zDto (ws := [(o 0, .inr (7, [f0, f1, f2, f3, .ref (o 3), .int (nI n), .int 0, .int (zb wl), .ref (o 4), .int (nI rm), f10])), (o 3, .inl (ca 0, 60, .inl (fun k => nI (g k)))), (o 4, .inl (ca 0, 93, .inl rd))]) hN hA rfl
  refine lv_aload_n hx hb dX7_readsAll_5 rfl (lv_at hl 0 rfl) ?_
  refine lv_iconst (v := 1) hx hb dX7_readsAll_6 (by decide) ?_
  refine z_put S in_lay_X7 tyX7_ok nmX7 hK hP hD hS rfl 0 rfl 7 (by decide) fl_X7_135 rfl rfl rfl rfl (Nat.le_of_ble_eq_true rfl) dX7_readsAll_7 (fun H locs hP hS => ?_)
  have hP : va_P D vwCl [(o 0, .inr (7, [f0, f1, f2, f3, .ref (o 3), .int (nI n), .int 0, .int (zb true), .ref (o 4), .int (nI rm), f10])), (o 3, .inl (ca 0, 60, .inl (fun k => nI (g k)))), (o 4, .inl (ca 0, 93, .inl rd))] H := hP
  have hD := zDto (ws := [(o 0, .inr (7, [f0, f1, f2, f3, .ref (o 3), .int (nI n), .int 0, .int (zb true), .ref (o 4), .int (nI rm), f10])), (o 3, .inl (ca 0, 60, .inl (fun k => nI (g k)))), (o 4, .inl (ca 0, 93, .inl rd))]) hN hA rfl
  refine lv_aload_n hx hb dX7_readsAll_10 rfl (lv_at hl 0 rfl) ?_
  refine lv_iconst (v := 0) hx hb dX7_readsAll_11 (by decide) ?_
  refine z_put S in_lay_X7 tyX7_ok nmX7 hK hP hD hS rfl 0 rfl 9 (by decide) fl_X7_145 rfl rfl rfl rfl (Nat.le_of_ble_eq_true rfl) dX7_readsAll_12 (fun H locs hP hS => ?_)
  have hP : va_P D vwCl [(o 0, .inr (7, [f0, f1, f2, f3, .ref (o 3), .int (nI n), .int 0, .int (zb true), .ref (o 4), .int 0, f10])), (o 3, .inl (ca 0, 60, .inl (fun k => nI (g k)))), (o 4, .inl (ca 0, 93, .inl rd))] H := hP
  have hD := zDto (ws := [(o 0, .inr (7, [f0, f1, f2, f3, .ref (o 3), .int (nI n), .int 0, .int (zb true), .ref (o 4), .int 0, f10])), (o 3, .inl (ca 0, 60, .inl (fun k => nI (g k)))), (o 4, .inl (ca 0, 93, .inl rd))]) hN hA rfl
  refine lv_aload_n hx hb dX7_readsAll_15 rfl (lv_at hl 0 rfl) ?_
  refine zcw (As := []) (rest := []) (st1 := []) (q0 := 0) (lw := [o 0, o 3, o 4]) S (c_X7_readsChange l D ca o f0 f1 f2 f3 f10 n 0 true 0 g rd (by first | assumption | omega) (by first | assumption | omega) (by first | assumption | omega) (by first | assumption | omega)  (znd_pick hN [0, 1, 2] rfl rfl)) ml_X7_151 zy_X7_readsChange im_X7_readsChange se_X7_readsChange ⟨Nat.le_of_ble_eq_true rfl, Nat.le_of_ble_eq_true rfl⟩ hK hP hD hS [0, 1, 2] rfl rfl rfl rfl rfl rfl rfl hl.1 rfl rfl (Nat.le_of_ble_eq_true rfl) ⟨Nat.zero_le _, Nat.zero_le _⟩ dX7_readsAll_16 (fun H locs hP hS => ?_)
  have hP : va_P D vwCl [(o 0, .inr (7, [f0, f1, f2, f3, .ref (o 3), .int (nI n), .int (nI ((rRc g n 0 true rd 0).1)), .int (zb ((rRc g n 0 true rd 0).2.1)), .ref (o 4), .int (nI ((rRc g n 0 true rd 0).2.2.2)), f10])), (o 3, .inl (ca 0, 60, .inl (fun k => nI (g k)))), (o 4, .inl (ca 0, 93, .inl ((rRc g n 0 true rd 0).2.2.1)))] H := hP
  have hD := zDto (ws := [(o 0, .inr (7, [f0, f1, f2, f3, .ref (o 3), .int (nI n), .int (nI ((rRc g n 0 true rd 0).1)), .int (zb ((rRc g n 0 true rd 0).2.1)), .ref (o 4), .int (nI ((rRc g n 0 true rd 0).2.2.2)), f10])), (o 3, .inl (ca 0, 60, .inl (fun k => nI (g k)))), (o 4, .inl (ca 0, 93, .inl ((rRc g n 0 true rd 0).2.2.1)))]) hN hA rfl
  have hzle := rRc_le (g := g) (n := n) (i := 0) (w := true) (rd := rd) (rm := 0) (by omega)
  have loop_0 : ∀ (f : Nat) (i0 : Nat) (w0 : Bool) (rd0 : Nat → Int32) (rm0 : Nat) (H : Heap) (locs : List Loc) (ls : Array Slot), i0 ≤ n → rRa g n rd = rrF g n f (i0, w0, rd0, rm0) → (w0 = true → n < i0 + f) → 0 < f → (w0 = true → 3 * rm0 ≤ i0 + 1) → lv_has ls 1 [(0, .ref (o 0))] → va_P D vwCl [(o 0, .inr (7, [f0, f1, f2, f3, .ref (o 3), .int (nI n), .int (nI i0), .int (zb w0), .ref (o 4), .int (nI rm0), f10])), (o 3, .inl (ca 0, 60, .inl (fun k => nI (g k)))), (o 4, .inl (ca 0, 93, .inl rd0))] H → va_S (zA [o 0, o 3, o 4]) s.heap H locs → W p l e { frames := 4, cells := 0, slots := 0, locals := 88 } s m args below meth c H locs 0 0 (MQ below (zQw D [o 0, o 3, o 4] ([(o 0, .inr (7, [f0, f1, f2, f3, .ref (o 3), .int (nI n), .int (nI ((rRa g n rd).1)), .int (zb ((rRa g n rd).2.1)), .ref (o 4), .int (nI ((rRa g n rd).2.2.2)), f10])), (o 3, .inl (ca 0, 60, .inl (fun k => nI (g k)))), (o 4, .inl (ca 0, 93, .inl ((rRa g n rd).2.2.1)))]) none) args s 0 0 (zA [o 0, o 3, o 4])) (F0 m 19 ls []) := by
    intro f
    induction f with
    | zero =>
      intro i0 w0 rd0 rm0 H locs ls j1 j2 j3 j4 j5 hl hP hS
      have hD := zDto (ws := [(o 0, .inr (7, [f0, f1, f2, f3, .ref (o 3), .int (nI n), .int (nI i0), .int (zb w0), .ref (o 4), .int (nI rm0), f10])), (o 3, .inl (ca 0, 60, .inl (fun k => nI (g k)))), (o 4, .inl (ca 0, 93, .inl rd0))]) hN hA rfl
      exact absurd j4 (by omega)
    | succ f ih =>
      intro i0 w0 rd0 rm0 H locs ls j1 j2 j3 j4 j5 hl hP hS
      have hD := zDto (ws := [(o 0, .inr (7, [f0, f1, f2, f3, .ref (o 3), .int (nI n), .int (nI i0), .int (zb w0), .ref (o 4), .int (nI rm0), f10])), (o 3, .inl (ca 0, 60, .inl (fun k => nI (g k)))), (o 4, .inl (ca 0, 93, .inl rd0))]) hN hA rfl
      refine lv_aload_n hx hb dX7_readsAll_19 rfl (lv_at hl 0 rfl) ?_
      refine z_get S in_lay_X7 hK hP rfl 0 rfl 7 (by decide) fl_X7_135 rfl rfl dX7_readsAll_20 ?_
      refine zz_eq (tgt := 90) hx hb dX7_readsAll_23 (by decide) (fun c_23_2 => ?_) (fun c_23_2 => ?_)
      · have hz : rRa g n rd = (i0, w0, rd0, rm0) := by rw [j2]; simp [rrF, Nat.not_lt.mpr, c_23_2]
        exact zw_v hx hb hr hlk hP hS (by rw [hz] <;> rfl) dX7_readsAll_90
      · have j3t := j3 (by assumption)
        have j5t := j5 (by assumption)
        refine lv_aload_n hx hb dX7_readsAll_26 rfl (lv_at hl 0 rfl) ?_
        refine z_get S in_lay_X7 hK hP rfl 0 rfl 6 (by decide) fl_X7_132 rfl rfl dX7_readsAll_27 ?_
        refine lv_aload_n hx hb dX7_readsAll_30 rfl (lv_at hl 0 rfl) ?_
        refine z_get S in_lay_X7 hK hP rfl 0 rfl 5 (by decide) fl_X7_129 rfl rfl dX7_readsAll_31 ?_
        refine zn_ge hx hb (x := i0) (y := n) (by omega) (by omega) (tgt := 90) dX7_readsAll_34 (by decide) (fun c_34_3 => ?_) (fun c_34_3 => ?_)
        · have hz : rRa g n rd = (i0, w0, rd0, rm0) := by rw [j2]; simp [rrF, Nat.not_lt.mpr, c_23_2, c_34_3]
          exact zw_v hx hb hr hlk hP hS (by rw [hz] <;> rfl) dX7_readsAll_90
        · refine lv_aload_n hx hb dX7_readsAll_37 rfl (lv_at hl 0 rfl) ?_
          refine lv_aload_n hx hb dX7_readsAll_38 rfl (lv_at hl 0 rfl) ?_
          refine zcr (As := []) (rest := [.ref (o 0)]) (q0 := 0) S (c_X7_sign l D ca o f0 f1 f2 f3 (.int (zb w0)) (.ref (o 4)) (.int (nI rm0)) f10 n i0 g (by first | assumption | omega) (by first | assumption | omega) (by first | assumption | omega) ) ml_X7_139 zy_X7_sign im_X7_sign se_X7_sign ⟨Nat.le_of_ble_eq_true rfl, Nat.le_of_ble_eq_true rfl⟩ hK hP [0, 1] rfl rfl rfl rfl rfl hl.1 rfl (Nat.le_of_ble_eq_true rfl) ⟨Nat.zero_le _, Nat.zero_le _⟩ dX7_readsAll_39 ?_
          have hsg : zSg g n i0 < 128 := zSg_lt (by assumption)
          refine lv_bipush (v := 44) hx hb dX7_readsAll_42 (by decide) ?_
          refine zn_ne hx hb (x := zSg g n i0) (y := 44) (by omega) (by omega) (tgt := 51) dX7_readsAll_44 (by decide) (fun c_44_4 => ?_) (fun c_44_4 => ?_)
          · refine lv_iconst (v := 0) hx hb dX7_readsAll_51 (by decide) ?_
            refine z_put S in_lay_X7 tyX7_ok nmX7 hK hP hD hS rfl 0 rfl 7 (by decide) fl_X7_135 rfl rfl rfl rfl (Nat.le_of_ble_eq_true rfl) dX7_readsAll_52 (fun H locs hP hS => ?_)
            have hP : va_P D vwCl [(o 0, .inr (7, [f0, f1, f2, f3, .ref (o 3), .int (nI n), .int (nI i0), .int (zb false), .ref (o 4), .int (nI rm0), f10])), (o 3, .inl (ca 0, 60, .inl (fun k => nI (g k)))), (o 4, .inl (ca 0, 93, .inl rd0))] H := hP
            have hD := zDto (ws := [(o 0, .inr (7, [f0, f1, f2, f3, .ref (o 3), .int (nI n), .int (nI i0), .int (zb false), .ref (o 4), .int (nI rm0), f10])), (o 3, .inl (ca 0, 60, .inl (fun k => nI (g k)))), (o 4, .inl (ca 0, 93, .inl rd0))]) hN hA rfl
            refine lv_aload_n hx hb dX7_readsAll_55 rfl (lv_at hl 0 rfl) ?_
            refine lv_dup hx hb dX7_readsAll_56 rfl ?_
            refine z_get S in_lay_X7 hK hP rfl 0 rfl 6 (by decide) fl_X7_132 rfl rfl dX7_readsAll_57 ?_
            refine lv_aload_n hx hb dX7_readsAll_60 rfl (lv_at hl 0 rfl) ?_
            refine z_get S in_lay_X7 hK hP rfl 0 rfl 7 (by decide) fl_X7_135 rfl rfl dX7_readsAll_61 ?_
            refine lv_if_eq (tgt := 71) hx hb dX7_readsAll_64 (by decide) (fun _ => ?_) (fun h => absurd (by decide) h)
            refine lv_iconst (v := 0) hx hb dX7_readsAll_71 (by decide) ?_
            refine zn_add hx hb (x := i0) (y := 0) (z := i0) (by omega) dX7_readsAll_72 ?_
            refine z_put S in_lay_X7 tyX7_ok nmX7 hK hP hD hS rfl 0 rfl 6 (by decide) fl_X7_132 rfl rfl rfl rfl (Nat.le_of_ble_eq_true rfl) dX7_readsAll_73 (fun H locs hP hS => ?_)
            have hP : va_P D vwCl [(o 0, .inr (7, [f0, f1, f2, f3, .ref (o 3), .int (nI n), .int (nI i0), .int (zb false), .ref (o 4), .int (nI rm0), f10])), (o 3, .inl (ca 0, 60, .inl (fun k => nI (g k)))), (o 4, .inl (ca 0, 93, .inl rd0))] H := hP
            have hD := zDto (ws := [(o 0, .inr (7, [f0, f1, f2, f3, .ref (o 3), .int (nI n), .int (nI i0), .int (zb false), .ref (o 4), .int (nI rm0), f10])), (o 3, .inl (ca 0, 60, .inl (fun k => nI (g k)))), (o 4, .inl (ca 0, 93, .inl rd0))]) hN hA rfl
            refine lv_aload_n hx hb dX7_readsAll_76 rfl (lv_at hl 0 rfl) ?_
            refine z_get S in_lay_X7 hK hP rfl 0 rfl 7 (by decide) fl_X7_135 rfl rfl dX7_readsAll_77 ?_
            refine lv_if_eq (tgt := 19) hx hb dX7_readsAll_80 (by decide) (fun _ => ?_) (fun h => absurd (by decide) h)
            exact ih i0 false rd0 rm0 _ _ ls (by omega) (by rw [j2]; simp [rrF, c_23_2, c_34_3, c_44_4]) (by intro hw; first | cases hw | (have := hzle.2.2.2.2 hw; omega)) (by omega) (by intro hw; first | cases hw | (have := hzle.2.2.2.2 hw; omega)) (lv_sub hl [0] rfl) hP hS
          · refine lv_iconst (v := 1) hx hb dX7_readsAll_47 (by decide) ?_
            refine lv_goto (tgt := 52) hx hb dX7_readsAll_48 (by decide) ?_
            refine z_put S in_lay_X7 tyX7_ok nmX7 hK hP hD hS rfl 0 rfl 7 (by decide) fl_X7_135 rfl rfl rfl rfl (Nat.le_of_ble_eq_true rfl) dX7_readsAll_52 (fun H locs hP hS => ?_)
            have hP : va_P D vwCl [(o 0, .inr (7, [f0, f1, f2, f3, .ref (o 3), .int (nI n), .int (nI i0), .int (zb true), .ref (o 4), .int (nI rm0), f10])), (o 3, .inl (ca 0, 60, .inl (fun k => nI (g k)))), (o 4, .inl (ca 0, 93, .inl rd0))] H := hP
            have hD := zDto (ws := [(o 0, .inr (7, [f0, f1, f2, f3, .ref (o 3), .int (nI n), .int (nI i0), .int (zb true), .ref (o 4), .int (nI rm0), f10])), (o 3, .inl (ca 0, 60, .inl (fun k => nI (g k)))), (o 4, .inl (ca 0, 93, .inl rd0))]) hN hA rfl
            refine lv_aload_n hx hb dX7_readsAll_55 rfl (lv_at hl 0 rfl) ?_
            refine lv_dup hx hb dX7_readsAll_56 rfl ?_
            refine z_get S in_lay_X7 hK hP rfl 0 rfl 6 (by decide) fl_X7_132 rfl rfl dX7_readsAll_57 ?_
            refine lv_aload_n hx hb dX7_readsAll_60 rfl (lv_at hl 0 rfl) ?_
            refine z_get S in_lay_X7 hK hP rfl 0 rfl 7 (by decide) fl_X7_135 rfl rfl dX7_readsAll_61 ?_
            refine lv_if_eq (tgt := 71) hx hb dX7_readsAll_64 (by decide) (fun h => absurd h (by decide)) (fun _ => ?_)
            refine lv_iconst (v := 1) hx hb dX7_readsAll_67 (by decide) ?_
            refine lv_goto (tgt := 72) hx hb dX7_readsAll_68 (by decide) ?_
            refine zn_add hx hb (x := i0) (y := 1) (z := i0 + 1) (by omega) dX7_readsAll_72 ?_
            refine z_put S in_lay_X7 tyX7_ok nmX7 hK hP hD hS rfl 0 rfl 6 (by decide) fl_X7_132 rfl rfl rfl rfl (Nat.le_of_ble_eq_true rfl) dX7_readsAll_73 (fun H locs hP hS => ?_)
            have hP : va_P D vwCl [(o 0, .inr (7, [f0, f1, f2, f3, .ref (o 3), .int (nI n), .int (nI (i0 + 1)), .int (zb true), .ref (o 4), .int (nI rm0), f10])), (o 3, .inl (ca 0, 60, .inl (fun k => nI (g k)))), (o 4, .inl (ca 0, 93, .inl rd0))] H := hP
            have hD := zDto (ws := [(o 0, .inr (7, [f0, f1, f2, f3, .ref (o 3), .int (nI n), .int (nI (i0 + 1)), .int (zb true), .ref (o 4), .int (nI rm0), f10])), (o 3, .inl (ca 0, 60, .inl (fun k => nI (g k)))), (o 4, .inl (ca 0, 93, .inl rd0))]) hN hA rfl
            refine lv_aload_n hx hb dX7_readsAll_76 rfl (lv_at hl 0 rfl) ?_
            refine z_get S in_lay_X7 hK hP rfl 0 rfl 7 (by decide) fl_X7_135 rfl rfl dX7_readsAll_77 ?_
            refine lv_if_eq (tgt := 19) hx hb dX7_readsAll_80 (by decide) (fun h => absurd h (by decide)) (fun _ => ?_)
            refine lv_aload_n hx hb dX7_readsAll_83 rfl (lv_at hl 0 rfl) ?_
            refine zcw (As := []) (rest := []) (st1 := []) (q0 := 0) (lw := [o 0, o 3, o 4]) S (c_X7_readsChange l D ca o f0 f1 f2 f3 f10 n (i0 + 1) true rm0 g rd0 (by first | assumption | omega) (by first | assumption | omega) (by first | assumption | omega) (by first | assumption | omega)  (znd_pick hN [0, 1, 2] rfl rfl)) ml_X7_151 zy_X7_readsChange im_X7_readsChange se_X7_readsChange ⟨Nat.le_of_ble_eq_true rfl, Nat.le_of_ble_eq_true rfl⟩ hK hP hD hS [0, 1, 2] rfl rfl rfl rfl rfl rfl rfl hl.1 rfl rfl (Nat.le_of_ble_eq_true rfl) ⟨Nat.zero_le _, Nat.zero_le _⟩ dX7_readsAll_84 (fun H locs hP hS => ?_)
            have hP : va_P D vwCl [(o 0, .inr (7, [f0, f1, f2, f3, .ref (o 3), .int (nI n), .int (nI ((rRc g n (i0 + 1) true rd0 rm0).1)), .int (zb ((rRc g n (i0 + 1) true rd0 rm0).2.1)), .ref (o 4), .int (nI ((rRc g n (i0 + 1) true rd0 rm0).2.2.2)), f10])), (o 3, .inl (ca 0, 60, .inl (fun k => nI (g k)))), (o 4, .inl (ca 0, 93, .inl ((rRc g n (i0 + 1) true rd0 rm0).2.2.1)))] H := hP
            have hD := zDto (ws := [(o 0, .inr (7, [f0, f1, f2, f3, .ref (o 3), .int (nI n), .int (nI ((rRc g n (i0 + 1) true rd0 rm0).1)), .int (zb ((rRc g n (i0 + 1) true rd0 rm0).2.1)), .ref (o 4), .int (nI ((rRc g n (i0 + 1) true rd0 rm0).2.2.2)), f10])), (o 3, .inl (ca 0, 60, .inl (fun k => nI (g k)))), (o 4, .inl (ca 0, 93, .inl ((rRc g n (i0 + 1) true rd0 rm0).2.2.1)))]) hN hA rfl
            have hzle := rRc_le (g := g) (n := n) (i := (i0 + 1)) (w := true) (rd := rd0) (rm := rm0) (by omega)
            refine lv_goto (tgt := 19) hx hb dX7_readsAll_87 (by decide) ?_
            exact ih ((rRc g n (i0 + 1) true rd0 rm0).1) ((rRc g n (i0 + 1) true rd0 rm0).2.1) ((rRc g n (i0 + 1) true rd0 rm0).2.2.1) ((rRc g n (i0 + 1) true rd0 rm0).2.2.2) _ _ ls (by omega) (by rw [j2]; simp [rrF, c_23_2, c_34_3, c_44_4]) (by intro hw; first | cases hw | (have := hzle.2.2.2.2 hw; omega)) (by omega) (by intro hw; first | cases hw | (have := hzle.2.2.2.2 hw; omega)) (lv_sub hl [0] rfl) hP hS
  exact loop_0 62 ((rRc g n 0 true rd 0).1) ((rRc g n 0 true rd 0).2.1) ((rRc g n 0 true rd 0).2.2.1) ((rRc g n 0 true rd 0).2.2.2) _ _ ls (by omega) (by rfl) (by intro _; omega) (by omega) (by intro hw; have := hzle.2.2.2.2 hw; omega) (lv_sub hl [0] rfl) hP hS
set_option maxHeartbeats 4000000 in
set_option maxRecDepth 100000 in
theorem c_X7_firstError (l : Launch) (D : va_G) (ca : Nat → ClassId) (o : Nat → Nat) (f1 f2 f3 f10 : Value) (thr : Int32) (n : Nat) (i : Nat) (wl : Bool) (rm : Nat) (g : Nat → Nat) (rd : Nat → Int32) (h0 : n ≤ 60) (h1 : ∀ k, g k < 128)  (hN : [o 0, o 3, o 4].Nodup) : zMw l yX7_firstError cX7_firstError 1 (some .int) 5 108 D ca [(o 0, .inr (7, [.int thr, f1, f2, f3, .ref (o 3), .int (nI n), .int (nI i), .int (zb wl), .ref (o 4), .int (nI rm), f10])), (o 3, .inl (ca 0, 60, .inl (fun k => nI (g k)))), (o 4, .inl (ca 0, 93, .inl rd))] ([(o 0, .inr (7, [.int 0, f1, f2, f3, .ref (o 3), .int (nI n), .int (nI ((rRa g n rd).1)), .int (zb ((rRa g n rd).2.1)), .ref (o 4), .int (nI ((rRa g n rd).2.2.2)), f10])), (o 3, .inl (ca 0, 60, .inl (fun k => nI (g k)))), (o 4, .inl (ca 0, 93, .inl ((rRa g n rd).2.2.1)))]) [.ref (o 0)] (some (.int (nI ((rRa g n rd).1)))) := by
  refine zMw_of (own := RX7) (by decide) rfl (Nat.le_of_ble_eq_true rfl) ?_
  intro p e s m args below meth c ls S hr hlk hP hK hl hS
  have hP : va_P D vwCl [(o 0, .inr (7, [.int thr, f1, f2, f3, .ref (o 3), .int (nI n), .int (nI i), .int (zb wl), .ref (o 4), .int (nI rm), f10])), (o 3, .inl (ca 0, 60, .inl (fun k => nI (g k)))), (o 4, .inl (ca 0, 93, .inl rd))] s.heap := hP
  have hS : va_S (zA [o 0, o 3, o 4]) s.heap s.heap [] := hS
  have hA : ∀ q ∈ [o 0, o 3, o 4], zA [o 0, o 3, o 4] q := fun _ h => h
  have hD := zDto (ws := [(o 0, .inr (7, [.int thr, f1, f2, f3, .ref (o 3), .int (nI n), .int (nI i), .int (zb wl), .ref (o 4), .int (nI rm), f10])), (o 3, .inl (ca 0, 60, .inl (fun k => nI (g k)))), (o 4, .inl (ca 0, 93, .inl rd))]) hN hA rfl
  have hx := S.1
  have hb := S.2.1
  have hl : lv_has ls 1 [(0, .ref (o 0))] := hl
  refine lv_aload_n hx hb dX7_firstError_0 rfl (lv_at hl 0 rfl) ?_
  refine lv_iconst (v := 0) hx hb dX7_firstError_1 (by decide) ?_
  refine z_put S in_lay_X7 tyX7_ok nmX7 hK hP hD hS rfl 0 rfl 0 (by decide) fl_X7_22 rfl rfl rfl rfl (Nat.le_of_ble_eq_true rfl) dX7_firstError_2 (fun H locs hP hS => ?_)
  have hP : va_P D vwCl [(o 0, .inr (7, [.int 0, f1, f2, f3, .ref (o 3), .int (nI n), .int (nI i), .int (zb wl), .ref (o 4), .int (nI rm), f10])), (o 3, .inl (ca 0, 60, .inl (fun k => nI (g k)))), (o 4, .inl (ca 0, 93, .inl rd))] H := hP
  have hD := zDto (ws := [(o 0, .inr (7, [.int 0, f1, f2, f3, .ref (o 3), .int (nI n), .int (nI i), .int (zb wl), .ref (o 4), .int (nI rm), f10])), (o 3, .inl (ca 0, 60, .inl (fun k => nI (g k)))), (o 4, .inl (ca 0, 93, .inl rd))]) hN hA rfl
  refine lv_aload_n hx hb dX7_firstError_5 rfl (lv_at hl 0 rfl) ?_
  refine zcw (As := []) (rest := []) (st1 := []) (q0 := 0) (lw := [o 0, o 3, o 4]) S (c_X7_readsAll l D ca o (.int 0) f1 f2 f3 f10 n i wl rm g rd (by first | assumption | omega) (by first | assumption | omega)  (znd_pick hN [0, 1, 2] rfl rfl)) ml_X7_154 zy_X7_readsAll im_X7_readsAll se_X7_readsAll ⟨Nat.le_of_ble_eq_true rfl, Nat.le_of_ble_eq_true rfl⟩ hK hP hD hS [0, 1, 2] rfl rfl rfl rfl rfl rfl rfl hl.1 rfl rfl (Nat.le_of_ble_eq_true rfl) ⟨Nat.zero_le _, Nat.zero_le _⟩ dX7_firstError_6 (fun H locs hP hS => ?_)
  have hP : va_P D vwCl [(o 0, .inr (7, [.int 0, f1, f2, f3, .ref (o 3), .int (nI n), .int (nI ((rRa g n rd).1)), .int (zb ((rRa g n rd).2.1)), .ref (o 4), .int (nI ((rRa g n rd).2.2.2)), f10])), (o 3, .inl (ca 0, 60, .inl (fun k => nI (g k)))), (o 4, .inl (ca 0, 93, .inl ((rRa g n rd).2.2.1)))] H := hP
  have hD := zDto (ws := [(o 0, .inr (7, [.int 0, f1, f2, f3, .ref (o 3), .int (nI n), .int (nI ((rRa g n rd).1)), .int (zb ((rRa g n rd).2.1)), .ref (o 4), .int (nI ((rRa g n rd).2.2.2)), f10])), (o 3, .inl (ca 0, 60, .inl (fun k => nI (g k)))), (o 4, .inl (ca 0, 93, .inl ((rRa g n rd).2.2.1)))]) hN hA rfl
  have hral := rRa_le (g := g) (n := n) (rd := rd)
  refine lv_aload_n hx hb dX7_firstError_9 rfl (lv_at hl 0 rfl) ?_
  refine z_get S in_lay_X7 hK hP rfl 0 rfl 6 (by decide) fl_X7_132 rfl rfl dX7_firstError_10 ?_
  exact zw_i hx hb hr hlk hP hS ⟨by rfl, by rfl⟩ dX7_firstError_13
set_option maxHeartbeats 4000000 in
set_option maxRecDepth 100000 in
theorem c_X7_makes (l : Launch) (D : va_G) (ca : Nat → ClassId) (o : Nat → Nat) (f0 f2 f3 f4 f5 f6 f7 f9 f10 : Value) (sf : Nat → Int32) (rd : Nat → Int32) (k q p0 d : Nat) (hk : k + 2 < 93) (hq : rd k = nI q) (hp : rd (k + 1) = nI p0) (hd : rd (k + 2) = nI d) (hp24 : p0 < 24) (hd10 : d < 10) (hqq : q = 43 ∨ q = 45 ∨ q = 61 ∨ (q = 126 ∧ p0 < 6)) (hN : [o 0, o 1, o 4].Nodup) : zMw l yX7_makes cX7_makes 3 (some .boolean) 5 114 D ca [(o 0, .inr (7, [f0, .ref (o 1), f2, f3, f4, f5, f6, f7, .ref (o 4), f9, f10])), (o 1, .inl (ca 0, 99, .inl sf)), (o 4, .inl (ca 0, 93, .inl rd))] ([(o 0, .inr (7, [f0, .ref (o 1), f2, f3, f4, f5, f6, f7, .ref (o 4), f9, f10])), (o 1, .inl (ca 0, 99, .inl ((rMk sf q p0 d).2))), (o 4, .inl (ca 0, 93, .inl rd))]) [.ref (o 0), .int (nI k)] (some (.int (zb ((rMk sf q p0 d).1)))) := by
  refine zMw_of (own := RX7) (by decide) rfl (Nat.le_of_ble_eq_true rfl) ?_
  intro p e s m args below meth c ls S hr hlk hP hK hl hS
  have hP : va_P D vwCl [(o 0, .inr (7, [f0, .ref (o 1), f2, f3, f4, f5, f6, f7, .ref (o 4), f9, f10])), (o 1, .inl (ca 0, 99, .inl sf)), (o 4, .inl (ca 0, 93, .inl rd))] s.heap := hP
  have hS : va_S (zA [o 0, o 1, o 4]) s.heap s.heap [] := hS
  have hA : ∀ q ∈ [o 0, o 1, o 4], zA [o 0, o 1, o 4] q := fun _ h => h
  have hD := zDto (ws := [(o 0, .inr (7, [f0, .ref (o 1), f2, f3, f4, f5, f6, f7, .ref (o 4), f9, f10])), (o 1, .inl (ca 0, 99, .inl sf)), (o 4, .inl (ca 0, 93, .inl rd))]) hN hA rfl
  have hx := S.1
  have hb := S.2.1
  have hl : lv_has ls 3 [(0, .ref (o 0)), (1, .int (nI k))] := hl
  refine lv_aload_n hx hb dX7_makes_0 rfl (lv_at hl 0 rfl) ?_
  refine z_get S in_lay_X7 hK hP rfl 0 rfl 8 (by decide) fl_X7_19 rfl rfl dX7_makes_1 ?_
  refine lv_iload_n hx hb dX7_makes_4 rfl (lv_at hl 1 rfl) ?_
  refine z_iald S hK hP 2 rfl (j := k) (by omega) (by decide) dX7_makes_5 ?_
  rw [hq]
  refine lv_bipush (v := 126) hx hb dX7_makes_6 (by decide) ?_
  refine zn_ne hx hb (x := q) (y := 126) (by omega) (by omega) (tgt := 26) dX7_makes_8 (by decide) (fun c_8_1 => ?_) (fun c_8_1 => ?_)
  · refine lv_aload_n hx hb dX7_makes_26 rfl (lv_at hl 0 rfl) ?_
    refine lv_aload_n hx hb dX7_makes_27 rfl (lv_at hl 0 rfl) ?_
    refine z_get S in_lay_X7 hK hP rfl 0 rfl 8 (by decide) fl_X7_19 rfl rfl dX7_makes_28 ?_
    refine lv_iload_n hx hb dX7_makes_31 rfl (lv_at hl 1 rfl) ?_
    refine z_iald S hK hP 2 rfl (j := k) (by omega) (by decide) dX7_makes_32 ?_
    rw [hq]
    refine lv_aload_n hx hb dX7_makes_33 rfl (lv_at hl 0 rfl) ?_
    refine z_get S in_lay_X7 hK hP rfl 0 rfl 8 (by decide) fl_X7_19 rfl rfl dX7_makes_34 ?_
    refine lv_iload_n hx hb dX7_makes_37 rfl (lv_at hl 1 rfl) ?_
    refine lv_iconst (v := 1) hx hb dX7_makes_38 (by decide) ?_
    refine zn_add hx hb (x := k) (y := 1) (z := k + 1) (by omega) dX7_makes_39 ?_
    refine z_iald S hK hP 2 rfl (j := k + 1) (by omega) (by decide) dX7_makes_40 ?_
    rw [hp]
    refine zcr (As := [.int (nI q), .int (nI p0)]) (rest := []) (q0 := 0) S (c_X7_canChange l D ca o f0 f2 f3 f4 f5 f6 f7 (.ref (o 4)) f9 f10 sf q p0 (by omega) (by omega)) ml_X7_71 zy_X7_canChange im_X7_canChange se_X7_canChange ⟨Nat.le_of_ble_eq_true rfl, Nat.le_of_ble_eq_true rfl⟩ hK hP [0, 1] rfl rfl rfl rfl rfl hl.1 rfl (Nat.le_of_ble_eq_true rfl) ⟨Nat.zero_le _, Nat.zero_le _⟩ dX7_makes_41 ?_
    refine lv_istore_n (lv' := [(2, .int (zb (rCan sf q (nI p0) (rSeen sf p0 (sf 0))))), (0, .ref (o 0)), (1, .int (nI k))]) hx hb dX7_makes_44 rfl hl (by decide) rfl (fun ls hl => ?_)
    refine lv_iload_n hx hb dX7_makes_45 rfl (lv_at hl 0 rfl) ?_
    refine zz_eq (tgt := 76) hx hb dX7_makes_46 (by decide) (fun c_46_2 => ?_) (fun c_46_2 => ?_)
    · refine lv_iload_n hx hb dX7_makes_76 rfl (lv_at hl 0 rfl) ?_
      have hz : rMk sf q p0 d = (rCan sf q (nI p0) (rSeen sf p0 (sf 0)), sf) := by simp [rMk, c_8_1, c_46_2]
      exact zw_z hx hb hr hlk hP hS ⟨by rw [hz] <;> rfl, by rw [hz] <;> rfl⟩ dX7_makes_77
    · have hlo1 : q ≠ 45 → rLow sf < 24 := rCan_lo c_46_2
      refine lv_aload_n hx hb dX7_makes_49 rfl (lv_at hl 1 rfl) ?_
      refine lv_aload_n hx hb dX7_makes_50 rfl (lv_at hl 1 rfl) ?_
      refine z_get S in_lay_X7 hK hP rfl 0 rfl 8 (by decide) fl_X7_19 rfl rfl dX7_makes_51 ?_
      refine lv_iload_n hx hb dX7_makes_54 rfl (lv_at hl 2 rfl) ?_
      refine z_iald S hK hP 2 rfl (j := k) (by omega) (by decide) dX7_makes_55 ?_
      rw [hq]
      refine lv_aload_n hx hb dX7_makes_56 rfl (lv_at hl 1 rfl) ?_
      refine z_get S in_lay_X7 hK hP rfl 0 rfl 8 (by decide) fl_X7_19 rfl rfl dX7_makes_57 ?_
      refine lv_iload_n hx hb dX7_makes_60 rfl (lv_at hl 2 rfl) ?_
      refine lv_iconst (v := 1) hx hb dX7_makes_61 (by decide) ?_
      refine zn_add hx hb (x := k) (y := 1) (z := k + 1) (by omega) dX7_makes_62 ?_
      refine z_iald S hK hP 2 rfl (j := k + 1) (by omega) (by decide) dX7_makes_63 ?_
      rw [hp]
      refine lv_aload_n hx hb dX7_makes_64 rfl (lv_at hl 1 rfl) ?_
      refine z_get S in_lay_X7 hK hP rfl 0 rfl 8 (by decide) fl_X7_19 rfl rfl dX7_makes_65 ?_
      refine lv_iload_n hx hb dX7_makes_68 rfl (lv_at hl 2 rfl) ?_
      refine lv_iconst (v := 2) hx hb dX7_makes_69 (by decide) ?_
      refine zn_add hx hb (x := k) (y := 2) (z := k + 2) (by omega) dX7_makes_70 ?_
      refine z_iald S hK hP 2 rfl (j := k + 2) (by omega) (by decide) dX7_makes_71 ?_
      rw [hd]
      refine zcw (As := [.int (nI q), .int (nI p0), .int (nI d)]) (rest := []) (st1 := [.int (zNo (rLow sf))]) (q0 := 0) (lw := [o 0, o 1]) S (c_X7_changes l D ca o f0 f2 f3 f4 f5 f6 f7 (.ref (o 4)) f9 f10 sf q p0 (nI d) (by omega) (by omega) (by first | assumption | omega) (znd_pick hN [0, 1] rfl rfl)) ml_X7_77 zy_X7_changes im_X7_changes se_X7_changes ⟨Nat.le_of_ble_eq_true rfl, Nat.le_of_ble_eq_true rfl⟩ hK hP hD hS [0, 1] rfl rfl rfl rfl rfl rfl rfl hl.1 rfl rfl (Nat.le_of_ble_eq_true rfl) ⟨Nat.zero_le _, Nat.zero_le _⟩ dX7_makes_72 (fun H locs hP hS => ?_)
      have hP : va_P D vwCl [(o 0, .inr (7, [f0, .ref (o 1), f2, f3, f4, f5, f6, f7, .ref (o 4), f9, f10])), (o 1, .inl (ca 0, 99, .inl (rChg sf q p0 (nI d)))), (o 4, .inl (ca 0, 93, .inl rd))] H := hP
      have hD := zDto (ws := [(o 0, .inr (7, [f0, .ref (o 1), f2, f3, f4, f5, f6, f7, .ref (o 4), f9, f10])), (o 1, .inl (ca 0, 99, .inl (rChg sf q p0 (nI d)))), (o 4, .inl (ca 0, 93, .inl rd))]) hN hA rfl
      refine lv_pop hx hb dX7_makes_75 rfl ?_
      refine lv_iload_n hx hb dX7_makes_76 rfl (lv_at hl 0 rfl) ?_
      have hz : rMk sf q p0 d = (rCan sf q (nI p0) (rSeen sf p0 (sf 0)), rChg sf q p0 (nI d)) := by simp [rMk, c_8_1, c_46_2]
      exact zw_z hx hb hr hlk hP hS ⟨by rw [hz] <;> rfl, by rw [hz] <;> rfl⟩ dX7_makes_77
  · refine lv_aload_n hx hb dX7_makes_11 rfl (lv_at hl 0 rfl) ?_
    refine lv_aload_n hx hb dX7_makes_12 rfl (lv_at hl 0 rfl) ?_
    refine z_get S in_lay_X7 hK hP rfl 0 rfl 8 (by decide) fl_X7_19 rfl rfl dX7_makes_13 ?_
    refine lv_iload_n hx hb dX7_makes_16 rfl (lv_at hl 1 rfl) ?_
    refine lv_iconst (v := 1) hx hb dX7_makes_17 (by decide) ?_
    refine zn_add hx hb (x := k) (y := 1) (z := k + 1) (by omega) dX7_makes_18 ?_
    refine z_iald S hK hP 2 rfl (j := k + 1) (by omega) (by decide) dX7_makes_19 ?_
    rw [hp]
    refine zcw (As := [.int (nI p0)]) (rest := []) (st1 := [.int ((rSw sf p0).1)]) (q0 := 0) (lw := [o 0, o 1]) S (c_X7_sweeps l D ca o f0 f2 f3 f4 f5 f6 f7 (.ref (o 4)) f9 f10 sf p0 (by omega) (znd_pick hN [0, 1] rfl rfl)) ml_X7_102 zy_X7_sweeps im_X7_sweeps se_X7_sweeps ⟨Nat.le_of_ble_eq_true rfl, Nat.le_of_ble_eq_true rfl⟩ hK hP hD hS [0, 1] rfl rfl rfl rfl rfl rfl rfl hl.1 rfl rfl (Nat.le_of_ble_eq_true rfl) ⟨Nat.zero_le _, Nat.zero_le _⟩ dX7_makes_20 (fun H locs hP hS => ?_)
    have hP : va_P D vwCl [(o 0, .inr (7, [f0, .ref (o 1), f2, f3, f4, f5, f6, f7, .ref (o 4), f9, f10])), (o 1, .inl (ca 0, 99, .inl ((rSw sf p0).2))), (o 4, .inl (ca 0, 93, .inl rd))] H := hP
    have hD := zDto (ws := [(o 0, .inr (7, [f0, .ref (o 1), f2, f3, f4, f5, f6, f7, .ref (o 4), f9, f10])), (o 1, .inl (ca 0, 99, .inl ((rSw sf p0).2))), (o 4, .inl (ca 0, 93, .inl rd))]) hN hA rfl
    refine lv_pop hx hb dX7_makes_23 rfl ?_
    refine lv_iconst (v := 1) hx hb dX7_makes_24 (by decide) ?_
    have hz : rMk sf q p0 d = (true, (rSw sf p0).2) := by simp [rMk, c_8_1]
    exact zw_z hx hb hr hlk hP hS ⟨by rw [hz] <;> rfl, by rw [hz] <;> rfl⟩ dX7_makes_25
set_option maxHeartbeats 4000000 in
set_option maxRecDepth 100000 in
theorem c_X7_put_A (l : Launch) (D : va_G) (ca : Nat → ClassId) (o : Nat → Nat) (f1 f2 f3 f4 f5 f6 f7 f8 f9 f10 : Value) (thr : Int32) (v : Int32) (hv : rIn v 0 9 = false) (hN : [o 0].Nodup) : zMw l yX7_put cX7_put 2 (some .int) 1 22 D ca [(o 0, .inr (7, [.int thr, f1, f2, f3, f4, f5, f6, f7, f8, f9, f10]))] ([(o 0, .inr (7, [.int 1, f1, f2, f3, f4, f5, f6, f7, f8, f9, f10]))]) [.ref (o 0), .int v] (some (.int 0)) := by
  refine zMw_of (own := RX7) (by decide) rfl (Nat.le_of_ble_eq_true rfl) ?_
  intro p e s m args below meth c ls S hr hlk hP hK hl hS
  have hP : va_P D vwCl [(o 0, .inr (7, [.int thr, f1, f2, f3, f4, f5, f6, f7, f8, f9, f10]))] s.heap := hP
  have hS : va_S (zA [o 0]) s.heap s.heap [] := hS
  have hA : ∀ q ∈ [o 0], zA [o 0] q := fun _ h => h
  have hD := zDto (ws := [(o 0, .inr (7, [.int thr, f1, f2, f3, f4, f5, f6, f7, f8, f9, f10]))]) hN hA rfl
  have hx := S.1
  have hb := S.2.1
  have hl : lv_has ls 2 [(0, .ref (o 0)), (1, .int v)] := hl
  refine lv_aload_n hx hb dX7_put_0 rfl (lv_at hl 0 rfl) ?_
  refine lv_iconst (v := 0) hx hb dX7_put_1 (by decide) ?_
  refine z_put S in_lay_X7 tyX7_ok nmX7 hK hP hD hS rfl 0 rfl 0 (by decide) fl_X7_22 rfl rfl rfl rfl (Nat.le_of_ble_eq_true rfl) dX7_put_2 (fun H locs hP hS => ?_)
  have hP : va_P D vwCl [(o 0, .inr (7, [.int 0, f1, f2, f3, f4, f5, f6, f7, f8, f9, f10]))] H := hP
  have hD := zDto (ws := [(o 0, .inr (7, [.int 0, f1, f2, f3, f4, f5, f6, f7, f8, f9, f10]))]) hN hA rfl
  refine lv_iload_n hx hb dX7_put_5 rfl (lv_at hl 1 rfl) ?_
  refine lv_iconst (v := 0) hx hb dX7_put_6 (by decide) ?_
  refine lv_bipush (v := 9) hx hb dX7_put_7 (by decide) ?_
  refine zcrS (As := [.int v, .int 0, .int 9]) (rest := []) S (c_X7_in l D ca v 0 9) ml_X7_26 zy_X7_in st_X7_in ⟨Nat.le_of_ble_eq_true rfl, Nat.le_of_ble_eq_true rfl⟩ hK hP [] rfl rfl hl.1 rfl (Nat.le_of_ble_eq_true rfl) ⟨Nat.zero_le _, Nat.zero_le _⟩ dX7_put_9 ?_
  refine zz_ne (tgt := 21) hx hb dX7_put_12 (by decide) (fun h => False.elim (by revert h; intro h; rw [hv] at h; exact absurd h (by decide))) (fun _ => ?_)
  refine lv_aload_n hx hb dX7_put_15 rfl (lv_at hl 0 rfl) ?_
  refine lv_iconst (v := 1) hx hb dX7_put_16 (by decide) ?_
  refine zcw (As := [.int 1]) (rest := []) (st1 := [.int 0]) (q0 := 0) (lw := [o 0]) S (c_X7_fails l D ca o f1 f2 f3 f4 f5 f6 f7 f8 f9 f10 0  1 (znd_pick hN [0] rfl rfl)) ml_X7_67 zy_X7_fails im_X7_fails se_X7_fails ⟨Nat.le_of_ble_eq_true rfl, Nat.le_of_ble_eq_true rfl⟩ hK hP hD hS [0] rfl rfl rfl rfl rfl rfl rfl hl.1 rfl rfl (Nat.le_of_ble_eq_true rfl) ⟨Nat.zero_le _, Nat.zero_le _⟩ dX7_put_17 (fun H locs hP hS => ?_)
  have hP : va_P D vwCl [(o 0, .inr (7, [.int 1, f1, f2, f3, f4, f5, f6, f7, f8, f9, f10]))] H := hP
  have hD := zDto (ws := [(o 0, .inr (7, [.int 1, f1, f2, f3, f4, f5, f6, f7, f8, f9, f10]))]) hN hA rfl
  exact zw_i hx hb hr hlk hP hS ⟨by rfl, by rfl⟩ dX7_put_20
set_option maxHeartbeats 4000000 in
set_option maxRecDepth 100000 in
theorem c_X7_put_B (l : Launch) (D : va_G) (ca : Nat → ClassId) (o : Nat → Nat) (f2 f3 f4 f5 f6 f7 f8 f9 f10 : Value) (thr : Int32) (sf : Nat → Int32) (v : Int32) (hv : rIn v 0 9 = true) (hlo : ¬ rLow sf < 24) (hN : [o 0, o 1].Nodup) : zMw l yX7_put cX7_put 2 (some .int) 4 89 D ca [(o 0, .inr (7, [.int thr, .ref (o 1), f2, f3, f4, f5, f6, f7, f8, f9, f10])), (o 1, .inl (ca 0, 99, .inl sf))] ([(o 0, .inr (7, [.int 2, .ref (o 1), f2, f3, f4, f5, f6, f7, f8, f9, f10])), (o 1, .inl (ca 0, 99, .inl sf))]) [.ref (o 0), .int v] (some (.int 0)) := by
  refine zMw_of (own := RX7) (by decide) rfl (Nat.le_of_ble_eq_true rfl) ?_
  intro p e s m args below meth c ls S hr hlk hP hK hl hS
  have hP : va_P D vwCl [(o 0, .inr (7, [.int thr, .ref (o 1), f2, f3, f4, f5, f6, f7, f8, f9, f10])), (o 1, .inl (ca 0, 99, .inl sf))] s.heap := hP
  have hS : va_S (zA [o 0, o 1]) s.heap s.heap [] := hS
  have hA : ∀ q ∈ [o 0, o 1], zA [o 0, o 1] q := fun _ h => h
  have hD := zDto (ws := [(o 0, .inr (7, [.int thr, .ref (o 1), f2, f3, f4, f5, f6, f7, f8, f9, f10])), (o 1, .inl (ca 0, 99, .inl sf))]) hN hA rfl
  have hx := S.1
  have hb := S.2.1
  have hl : lv_has ls 2 [(0, .ref (o 0)), (1, .int v)] := hl
  have hcan : rCan sf 43 (nI 0) (rSeen sf 0 (sf 0)) = false := by simp [rCan, hlo]
  refine lv_aload_n hx hb dX7_put_0 rfl (lv_at hl 0 rfl) ?_
  refine lv_iconst (v := 0) hx hb dX7_put_1 (by decide) ?_
  refine z_put S in_lay_X7 tyX7_ok nmX7 hK hP hD hS rfl 0 rfl 0 (by decide) fl_X7_22 rfl rfl rfl rfl (Nat.le_of_ble_eq_true rfl) dX7_put_2 (fun H locs hP hS => ?_)
  have hP : va_P D vwCl [(o 0, .inr (7, [.int 0, .ref (o 1), f2, f3, f4, f5, f6, f7, f8, f9, f10])), (o 1, .inl (ca 0, 99, .inl sf))] H := hP
  have hD := zDto (ws := [(o 0, .inr (7, [.int 0, .ref (o 1), f2, f3, f4, f5, f6, f7, f8, f9, f10])), (o 1, .inl (ca 0, 99, .inl sf))]) hN hA rfl
  refine lv_iload_n hx hb dX7_put_5 rfl (lv_at hl 1 rfl) ?_
  refine lv_iconst (v := 0) hx hb dX7_put_6 (by decide) ?_
  refine lv_bipush (v := 9) hx hb dX7_put_7 (by decide) ?_
  refine zcrS (As := [.int v, .int 0, .int 9]) (rest := []) S (c_X7_in l D ca v 0 9) ml_X7_26 zy_X7_in st_X7_in ⟨Nat.le_of_ble_eq_true rfl, Nat.le_of_ble_eq_true rfl⟩ hK hP [] rfl rfl hl.1 rfl (Nat.le_of_ble_eq_true rfl) ⟨Nat.zero_le _, Nat.zero_le _⟩ dX7_put_9 ?_
  refine zz_ne (tgt := 21) hx hb dX7_put_12 (by decide) (fun _ => ?_) (fun h => False.elim (by revert h; intro h; rw [hv] at h; exact absurd h (by decide)))
  refine lv_aload_n hx hb dX7_put_21 rfl (lv_at hl 0 rfl) ?_
  refine lv_bipush (v := 43) hx hb dX7_put_22 (by decide) ?_
  refine lv_iconst (v := 0) hx hb dX7_put_24 (by decide) ?_
  refine zcr (As := [.int 43, .int 0]) (rest := []) (q0 := 0) S (c_X7_canChange l D ca o (.int 0) f2 f3 f4 f5 f6 f7 f8 f9 f10 sf 43 0 (by omega) (by omega)) ml_X7_71 zy_X7_canChange im_X7_canChange se_X7_canChange ⟨Nat.le_of_ble_eq_true rfl, Nat.le_of_ble_eq_true rfl⟩ hK hP [0, 1] rfl rfl rfl rfl rfl hl.1 rfl (Nat.le_of_ble_eq_true rfl) ⟨Nat.zero_le _, Nat.zero_le _⟩ dX7_put_25 ?_
  refine zz_ne (tgt := 37) hx hb dX7_put_28 (by decide) (fun h => False.elim (by revert h; intro h; rw [hcan] at h; exact absurd h (by decide))) (fun _ => ?_)
  refine lv_aload_n hx hb dX7_put_31 rfl (lv_at hl 0 rfl) ?_
  refine lv_iconst (v := 2) hx hb dX7_put_32 (by decide) ?_
  refine zcw (As := [.int 2]) (rest := []) (st1 := [.int 0]) (q0 := 0) (lw := [o 0]) S (c_X7_fails l D ca o (.ref (o 1)) f2 f3 f4 f5 f6 f7 f8 f9 f10 0  2 (znd_pick hN [0] rfl rfl)) ml_X7_67 zy_X7_fails im_X7_fails se_X7_fails ⟨Nat.le_of_ble_eq_true rfl, Nat.le_of_ble_eq_true rfl⟩ hK hP hD hS [0] rfl rfl rfl rfl rfl rfl rfl hl.1 rfl rfl (Nat.le_of_ble_eq_true rfl) ⟨Nat.zero_le _, Nat.zero_le _⟩ dX7_put_33 (fun H locs hP hS => ?_)
  have hP : va_P D vwCl [(o 0, .inr (7, [.int 2, .ref (o 1), f2, f3, f4, f5, f6, f7, f8, f9, f10])), (o 1, .inl (ca 0, 99, .inl sf))] H := hP
  have hD := zDto (ws := [(o 0, .inr (7, [.int 2, .ref (o 1), f2, f3, f4, f5, f6, f7, f8, f9, f10])), (o 1, .inl (ca 0, 99, .inl sf))]) hN hA rfl
  exact zw_i hx hb hr hlk hP hS ⟨by rfl, by rfl⟩ dX7_put_36
set_option maxHeartbeats 4000000 in
set_option maxRecDepth 100000 in
theorem c_X7_put_C (l : Launch) (D : va_G) (ca : Nat → ClassId) (o : Nat → Nat) (f4 f5 f6 f7 f8 f9 f10 : Value) (thr : Int32) (mm : Nat) (sf : Nat → Int32) (sv : Nat → Int32) (h0 : mm ≤ 6) (v : Int32) (hv : rIn v 0 9 = true) (hlo : rLow sf < 24) (hN : [o 0, o 1, o 2].Nodup) : zMw l yX7_put cX7_put 2 (some .int) 4 89 D ca [(o 0, .inr (7, [.int thr, .ref (o 1), .ref (o 2), .int (nI mm), f4, f5, f6, f7, f8, f9, f10])), (o 1, .inl (ca 0, 99, .inl sf)), (o 2, .inl (ca 0, 594, .inl sv))] ([(o 0, .inr (7, [.int 0, .ref (o 1), .ref (o 2), .int (nI (rSm mm)), f4, f5, f6, f7, f8, f9, f10])), (o 1, .inl (ca 0, 99, .inl (rChg sf 43 0 v))), (o 2, .inl (ca 0, 594, .inl (rSv sf sv mm)))]) [.ref (o 0), .int v] (some (.int (nI (rLow sf)))) := by
  refine zMw_of (own := RX7) (by decide) rfl (Nat.le_of_ble_eq_true rfl) ?_
  intro p e s m args below meth c ls S hr hlk hP hK hl hS
  have hP : va_P D vwCl [(o 0, .inr (7, [.int thr, .ref (o 1), .ref (o 2), .int (nI mm), f4, f5, f6, f7, f8, f9, f10])), (o 1, .inl (ca 0, 99, .inl sf)), (o 2, .inl (ca 0, 594, .inl sv))] s.heap := hP
  have hS : va_S (zA [o 0, o 1, o 2]) s.heap s.heap [] := hS
  have hA : ∀ q ∈ [o 0, o 1, o 2], zA [o 0, o 1, o 2] q := fun _ h => h
  have hD := zDto (ws := [(o 0, .inr (7, [.int thr, .ref (o 1), .ref (o 2), .int (nI mm), f4, f5, f6, f7, f8, f9, f10])), (o 1, .inl (ca 0, 99, .inl sf)), (o 2, .inl (ca 0, 594, .inl sv))]) hN hA rfl
  have hx := S.1
  have hb := S.2.1
  have hl : lv_has ls 2 [(0, .ref (o 0)), (1, .int v)] := hl
  have hcan : rCan sf 43 (nI 0) (rSeen sf 0 (sf 0)) = true := by simp [rCan, hlo]
  refine lv_aload_n hx hb dX7_put_0 rfl (lv_at hl 0 rfl) ?_
  refine lv_iconst (v := 0) hx hb dX7_put_1 (by decide) ?_
  refine z_put S in_lay_X7 tyX7_ok nmX7 hK hP hD hS rfl 0 rfl 0 (by decide) fl_X7_22 rfl rfl rfl rfl (Nat.le_of_ble_eq_true rfl) dX7_put_2 (fun H locs hP hS => ?_)
  have hP : va_P D vwCl [(o 0, .inr (7, [.int 0, .ref (o 1), .ref (o 2), .int (nI mm), f4, f5, f6, f7, f8, f9, f10])), (o 1, .inl (ca 0, 99, .inl sf)), (o 2, .inl (ca 0, 594, .inl sv))] H := hP
  have hD := zDto (ws := [(o 0, .inr (7, [.int 0, .ref (o 1), .ref (o 2), .int (nI mm), f4, f5, f6, f7, f8, f9, f10])), (o 1, .inl (ca 0, 99, .inl sf)), (o 2, .inl (ca 0, 594, .inl sv))]) hN hA rfl
  refine lv_iload_n hx hb dX7_put_5 rfl (lv_at hl 1 rfl) ?_
  refine lv_iconst (v := 0) hx hb dX7_put_6 (by decide) ?_
  refine lv_bipush (v := 9) hx hb dX7_put_7 (by decide) ?_
  refine zcrS (As := [.int v, .int 0, .int 9]) (rest := []) S (c_X7_in l D ca v 0 9) ml_X7_26 zy_X7_in st_X7_in ⟨Nat.le_of_ble_eq_true rfl, Nat.le_of_ble_eq_true rfl⟩ hK hP [] rfl rfl hl.1 rfl (Nat.le_of_ble_eq_true rfl) ⟨Nat.zero_le _, Nat.zero_le _⟩ dX7_put_9 ?_
  refine zz_ne (tgt := 21) hx hb dX7_put_12 (by decide) (fun _ => ?_) (fun h => False.elim (by revert h; intro h; rw [hv] at h; exact absurd h (by decide)))
  refine lv_aload_n hx hb dX7_put_21 rfl (lv_at hl 0 rfl) ?_
  refine lv_bipush (v := 43) hx hb dX7_put_22 (by decide) ?_
  refine lv_iconst (v := 0) hx hb dX7_put_24 (by decide) ?_
  refine zcr (As := [.int 43, .int 0]) (rest := []) (q0 := 0) S (c_X7_canChange l D ca o (.int 0) (.ref (o 2)) (.int (nI mm)) f4 f5 f6 f7 f8 f9 f10 sf 43 0 (by omega) (by omega)) ml_X7_71 zy_X7_canChange im_X7_canChange se_X7_canChange ⟨Nat.le_of_ble_eq_true rfl, Nat.le_of_ble_eq_true rfl⟩ hK hP [0, 1] rfl rfl rfl rfl rfl hl.1 rfl (Nat.le_of_ble_eq_true rfl) ⟨Nat.zero_le _, Nat.zero_le _⟩ dX7_put_25 ?_
  refine zz_ne (tgt := 37) hx hb dX7_put_28 (by decide) (fun _ => ?_) (fun h => False.elim (by revert h; intro h; rw [hcan] at h; exact absurd h (by decide)))
  refine lv_aload_n hx hb dX7_put_37 rfl (lv_at hl 0 rfl) ?_
  refine zcw (As := []) (rest := []) (st1 := []) (q0 := 0) (lw := [o 0, o 1, o 2]) S (c_X7_saves l D ca o (.int 0) f4 f5 f6 f7 f8 f9 f10 mm sf sv (by first | assumption | omega)  (znd_pick hN [0, 1, 2] rfl rfl)) ml_X7_74 zy_X7_saves im_X7_saves se_X7_saves ⟨Nat.le_of_ble_eq_true rfl, Nat.le_of_ble_eq_true rfl⟩ hK hP hD hS [0, 1, 2] rfl rfl rfl rfl rfl rfl rfl hl.1 rfl rfl (Nat.le_of_ble_eq_true rfl) ⟨Nat.zero_le _, Nat.zero_le _⟩ dX7_put_38 (fun H locs hP hS => ?_)
  have hP : va_P D vwCl [(o 0, .inr (7, [.int 0, .ref (o 1), .ref (o 2), .int (nI (rSm mm)), f4, f5, f6, f7, f8, f9, f10])), (o 1, .inl (ca 0, 99, .inl sf)), (o 2, .inl (ca 0, 594, .inl (rSv sf sv mm)))] H := hP
  have hD := zDto (ws := [(o 0, .inr (7, [.int 0, .ref (o 1), .ref (o 2), .int (nI (rSm mm)), f4, f5, f6, f7, f8, f9, f10])), (o 1, .inl (ca 0, 99, .inl sf)), (o 2, .inl (ca 0, 594, .inl (rSv sf sv mm)))]) hN hA rfl
  have hsm : rSm mm ≤ 6 := by unfold rSm; split <;> omega
  refine lv_aload_n hx hb dX7_put_41 rfl (lv_at hl 0 rfl) ?_
  refine lv_bipush (v := 43) hx hb dX7_put_42 (by decide) ?_
  refine lv_iconst (v := 0) hx hb dX7_put_44 (by decide) ?_
  refine lv_iload_n hx hb dX7_put_45 rfl (lv_at hl 1 rfl) ?_
  refine zcw (As := [.int 43, .int 0, .int v]) (rest := []) (st1 := [.int (zNo (rLow sf))]) (q0 := 0) (lw := [o 0, o 1]) S (c_X7_changes l D ca o (.int 0) (.ref (o 2)) (.int (nI (rSm mm))) f4 f5 f6 f7 f8 f9 f10 sf 43 0 v (by omega) (by omega) (by first | assumption | omega) (znd_pick hN [0, 1] rfl rfl)) ml_X7_77 zy_X7_changes im_X7_changes se_X7_changes ⟨Nat.le_of_ble_eq_true rfl, Nat.le_of_ble_eq_true rfl⟩ hK hP hD hS [0, 1] rfl rfl rfl rfl rfl rfl rfl hl.1 rfl rfl (Nat.le_of_ble_eq_true rfl) ⟨Nat.zero_le _, Nat.zero_le _⟩ dX7_put_46 (fun H locs hP hS => ?_)
  have hP : va_P D vwCl [(o 0, .inr (7, [.int 0, .ref (o 1), .ref (o 2), .int (nI (rSm mm)), f4, f5, f6, f7, f8, f9, f10])), (o 1, .inl (ca 0, 99, .inl (rChg sf 43 0 v))), (o 2, .inl (ca 0, 594, .inl (rSv sf sv mm)))] H := hP
  have hD := zDto (ws := [(o 0, .inr (7, [.int 0, .ref (o 1), .ref (o 2), .int (nI (rSm mm)), f4, f5, f6, f7, f8, f9, f10])), (o 1, .inl (ca 0, 99, .inl (rChg sf 43 0 v))), (o 2, .inl (ca 0, 594, .inl (rSv sf sv mm)))]) hN hA rfl
  exact zw_i hx hb hr hlk hP hS ⟨by rw [zNo, if_pos hlo], by rfl⟩ dX7_put_49
set_option maxHeartbeats 4000000 in
set_option maxRecDepth 100000 in
theorem c_X7_take_A (l : Launch) (D : va_G) (ca : Nat → ClassId) (o : Nat → Nat) (f1 f2 f3 f4 f5 f6 f7 f8 f9 f10 : Value) (thr : Int32) (v : Int32) (hv : rIn v 0 23 = false) (hN : [o 0].Nodup) : zMw l yX7_take cX7_take 2 (some .int) 2 42 D ca [(o 0, .inr (7, [.int thr, f1, f2, f3, f4, f5, f6, f7, f8, f9, f10]))] ([(o 0, .inr (7, [.int 1, f1, f2, f3, f4, f5, f6, f7, f8, f9, f10]))]) [.ref (o 0), .int v] (some (.int 0)) := by
  refine zMw_of (own := RX7) (by decide) rfl (Nat.le_of_ble_eq_true rfl) ?_
  intro p e s m args below meth c ls S hr hlk hP hK hl hS
  have hP : va_P D vwCl [(o 0, .inr (7, [.int thr, f1, f2, f3, f4, f5, f6, f7, f8, f9, f10]))] s.heap := hP
  have hS : va_S (zA [o 0]) s.heap s.heap [] := hS
  have hA : ∀ q ∈ [o 0], zA [o 0] q := fun _ h => h
  have hD := zDto (ws := [(o 0, .inr (7, [.int thr, f1, f2, f3, f4, f5, f6, f7, f8, f9, f10]))]) hN hA rfl
  have hx := S.1
  have hb := S.2.1
  have hl : lv_has ls 2 [(0, .ref (o 0)), (1, .int v)] := hl
  refine lv_aload_n hx hb dX7_take_0 rfl (lv_at hl 0 rfl) ?_
  refine lv_iconst (v := 0) hx hb dX7_take_1 (by decide) ?_
  refine z_put S in_lay_X7 tyX7_ok nmX7 hK hP hD hS rfl 0 rfl 0 (by decide) fl_X7_22 rfl rfl rfl rfl (Nat.le_of_ble_eq_true rfl) dX7_take_2 (fun H locs hP hS => ?_)
  have hP : va_P D vwCl [(o 0, .inr (7, [.int 0, f1, f2, f3, f4, f5, f6, f7, f8, f9, f10]))] H := hP
  have hD := zDto (ws := [(o 0, .inr (7, [.int 0, f1, f2, f3, f4, f5, f6, f7, f8, f9, f10]))]) hN hA rfl
  refine lv_iload_n hx hb dX7_take_5 rfl (lv_at hl 1 rfl) ?_
  refine zcrS (As := [.int v]) (rest := []) S (c_X7_isPlace l D ca v) ml_X7_60 zy_X7_isPlace st_X7_isPlace ⟨Nat.le_of_ble_eq_true rfl, Nat.le_of_ble_eq_true rfl⟩ hK hP [] rfl rfl hl.1 rfl (Nat.le_of_ble_eq_true rfl) ⟨Nat.zero_le _, Nat.zero_le _⟩ dX7_take_6 ?_
  refine zz_ne (tgt := 18) hx hb dX7_take_9 (by decide) (fun h => False.elim (by revert h; intro h; rw [hv] at h; exact absurd h (by decide))) (fun _ => ?_)
  refine lv_aload_n hx hb dX7_take_12 rfl (lv_at hl 0 rfl) ?_
  refine lv_iconst (v := 1) hx hb dX7_take_13 (by decide) ?_
  refine zcw (As := [.int 1]) (rest := []) (st1 := [.int 0]) (q0 := 0) (lw := [o 0]) S (c_X7_fails l D ca o f1 f2 f3 f4 f5 f6 f7 f8 f9 f10 0  1 (znd_pick hN [0] rfl rfl)) ml_X7_67 zy_X7_fails im_X7_fails se_X7_fails ⟨Nat.le_of_ble_eq_true rfl, Nat.le_of_ble_eq_true rfl⟩ hK hP hD hS [0] rfl rfl rfl rfl rfl rfl rfl hl.1 rfl rfl (Nat.le_of_ble_eq_true rfl) ⟨Nat.zero_le _, Nat.zero_le _⟩ dX7_take_14 (fun H locs hP hS => ?_)
  have hP : va_P D vwCl [(o 0, .inr (7, [.int 1, f1, f2, f3, f4, f5, f6, f7, f8, f9, f10]))] H := hP
  have hD := zDto (ws := [(o 0, .inr (7, [.int 1, f1, f2, f3, f4, f5, f6, f7, f8, f9, f10]))]) hN hA rfl
  exact zw_i hx hb hr hlk hP hS ⟨by rfl, by rfl⟩ dX7_take_17
set_option maxHeartbeats 4000000 in
set_option maxRecDepth 100000 in
theorem c_X7_take_B (l : Launch) (D : va_G) (ca : Nat → ClassId) (o : Nat → Nat) (f2 f3 f4 f5 f6 f7 f8 f9 f10 : Value) (thr : Int32) (sf : Nat → Int32) (k : Nat) (hk : k < 24) (hs : rSeen sf k (sf 0) = false) (hN : [o 0, o 1].Nodup) : zMw l yX7_take cX7_take 2 (some .int) 4 89 D ca [(o 0, .inr (7, [.int thr, .ref (o 1), f2, f3, f4, f5, f6, f7, f8, f9, f10])), (o 1, .inl (ca 0, 99, .inl sf))] ([(o 0, .inr (7, [.int 2, .ref (o 1), f2, f3, f4, f5, f6, f7, f8, f9, f10])), (o 1, .inl (ca 0, 99, .inl sf))]) [.ref (o 0), .int (nI k)] (some (.int 0)) := by
  refine zMw_of (own := RX7) (by decide) rfl (Nat.le_of_ble_eq_true rfl) ?_
  intro p e s m args below meth c ls S hr hlk hP hK hl hS
  have hP : va_P D vwCl [(o 0, .inr (7, [.int thr, .ref (o 1), f2, f3, f4, f5, f6, f7, f8, f9, f10])), (o 1, .inl (ca 0, 99, .inl sf))] s.heap := hP
  have hS : va_S (zA [o 0, o 1]) s.heap s.heap [] := hS
  have hA : ∀ q ∈ [o 0, o 1], zA [o 0, o 1] q := fun _ h => h
  have hD := zDto (ws := [(o 0, .inr (7, [.int thr, .ref (o 1), f2, f3, f4, f5, f6, f7, f8, f9, f10])), (o 1, .inl (ca 0, 99, .inl sf))]) hN hA rfl
  have hx := S.1
  have hb := S.2.1
  have hl : lv_has ls 2 [(0, .ref (o 0)), (1, .int (nI k))] := hl
  have hin : rIn (nI k) 0 23 = true := rIn_t (a := 0) (b := 23) (by omega) (by omega) (by decide)
  have hcan : rCan sf 45 (nI k) (rSeen sf k (sf 0)) = false := by simp [rCan, hs]
  refine lv_aload_n hx hb dX7_take_0 rfl (lv_at hl 0 rfl) ?_
  refine lv_iconst (v := 0) hx hb dX7_take_1 (by decide) ?_
  refine z_put S in_lay_X7 tyX7_ok nmX7 hK hP hD hS rfl 0 rfl 0 (by decide) fl_X7_22 rfl rfl rfl rfl (Nat.le_of_ble_eq_true rfl) dX7_take_2 (fun H locs hP hS => ?_)
  have hP : va_P D vwCl [(o 0, .inr (7, [.int 0, .ref (o 1), f2, f3, f4, f5, f6, f7, f8, f9, f10])), (o 1, .inl (ca 0, 99, .inl sf))] H := hP
  have hD := zDto (ws := [(o 0, .inr (7, [.int 0, .ref (o 1), f2, f3, f4, f5, f6, f7, f8, f9, f10])), (o 1, .inl (ca 0, 99, .inl sf))]) hN hA rfl
  refine lv_iload_n hx hb dX7_take_5 rfl (lv_at hl 1 rfl) ?_
  refine zcrS (As := [.int (nI k)]) (rest := []) S (c_X7_isPlace l D ca (nI k)) ml_X7_60 zy_X7_isPlace st_X7_isPlace ⟨Nat.le_of_ble_eq_true rfl, Nat.le_of_ble_eq_true rfl⟩ hK hP [] rfl rfl hl.1 rfl (Nat.le_of_ble_eq_true rfl) ⟨Nat.zero_le _, Nat.zero_le _⟩ dX7_take_6 ?_
  refine zz_ne (tgt := 18) hx hb dX7_take_9 (by decide) (fun _ => ?_) (fun h => False.elim (by revert h; intro h; rw [hin] at h; exact absurd h (by decide)))
  refine lv_aload_n hx hb dX7_take_18 rfl (lv_at hl 0 rfl) ?_
  refine lv_bipush (v := 45) hx hb dX7_take_19 (by decide) ?_
  refine lv_iload_n hx hb dX7_take_21 rfl (lv_at hl 1 rfl) ?_
  refine zcr (As := [.int 45, .int (nI k)]) (rest := []) (q0 := 0) S (c_X7_canChange l D ca o (.int 0) f2 f3 f4 f5 f6 f7 f8 f9 f10 sf 45 k (by omega) (by omega)) ml_X7_71 zy_X7_canChange im_X7_canChange se_X7_canChange ⟨Nat.le_of_ble_eq_true rfl, Nat.le_of_ble_eq_true rfl⟩ hK hP [0, 1] rfl rfl rfl rfl rfl hl.1 rfl (Nat.le_of_ble_eq_true rfl) ⟨Nat.zero_le _, Nat.zero_le _⟩ dX7_take_22 ?_
  refine zz_ne (tgt := 34) hx hb dX7_take_25 (by decide) (fun h => False.elim (by revert h; intro h; rw [hcan] at h; exact absurd h (by decide))) (fun _ => ?_)
  refine lv_aload_n hx hb dX7_take_28 rfl (lv_at hl 0 rfl) ?_
  refine lv_iconst (v := 2) hx hb dX7_take_29 (by decide) ?_
  refine zcw (As := [.int 2]) (rest := []) (st1 := [.int 0]) (q0 := 0) (lw := [o 0]) S (c_X7_fails l D ca o (.ref (o 1)) f2 f3 f4 f5 f6 f7 f8 f9 f10 0  2 (znd_pick hN [0] rfl rfl)) ml_X7_67 zy_X7_fails im_X7_fails se_X7_fails ⟨Nat.le_of_ble_eq_true rfl, Nat.le_of_ble_eq_true rfl⟩ hK hP hD hS [0] rfl rfl rfl rfl rfl rfl rfl hl.1 rfl rfl (Nat.le_of_ble_eq_true rfl) ⟨Nat.zero_le _, Nat.zero_le _⟩ dX7_take_30 (fun H locs hP hS => ?_)
  have hP : va_P D vwCl [(o 0, .inr (7, [.int 2, .ref (o 1), f2, f3, f4, f5, f6, f7, f8, f9, f10])), (o 1, .inl (ca 0, 99, .inl sf))] H := hP
  have hD := zDto (ws := [(o 0, .inr (7, [.int 2, .ref (o 1), f2, f3, f4, f5, f6, f7, f8, f9, f10])), (o 1, .inl (ca 0, 99, .inl sf))]) hN hA rfl
  exact zw_i hx hb hr hlk hP hS ⟨by rfl, by rfl⟩ dX7_take_33
set_option maxHeartbeats 4000000 in
set_option maxRecDepth 100000 in
theorem c_X7_take_C (l : Launch) (D : va_G) (ca : Nat → ClassId) (o : Nat → Nat) (f4 f5 f6 f7 f8 f9 f10 : Value) (thr : Int32) (mm : Nat) (sf : Nat → Int32) (sv : Nat → Int32) (h0 : mm ≤ 6) (k : Nat) (hk : k < 24) (hs : rSeen sf k (sf 0) = true) (hN : [o 0, o 1, o 2].Nodup) : zMw l yX7_take cX7_take 2 (some .int) 4 89 D ca [(o 0, .inr (7, [.int thr, .ref (o 1), .ref (o 2), .int (nI mm), f4, f5, f6, f7, f8, f9, f10])), (o 1, .inl (ca 0, 99, .inl sf)), (o 2, .inl (ca 0, 594, .inl sv))] ([(o 0, .inr (7, [.int 0, .ref (o 1), .ref (o 2), .int (nI (rSm mm)), f4, f5, f6, f7, f8, f9, f10])), (o 1, .inl (ca 0, 99, .inl (rChg sf 45 k 0))), (o 2, .inl (ca 0, 594, .inl (rSv sf sv mm)))]) [.ref (o 0), .int (nI k)] (some (.int (rOf (rChg sf 45 k 0) k 0 - 1))) := by
  refine zMw_of (own := RX7) (by decide) rfl (Nat.le_of_ble_eq_true rfl) ?_
  intro p e s m args below meth c ls S hr hlk hP hK hl hS
  have hP : va_P D vwCl [(o 0, .inr (7, [.int thr, .ref (o 1), .ref (o 2), .int (nI mm), f4, f5, f6, f7, f8, f9, f10])), (o 1, .inl (ca 0, 99, .inl sf)), (o 2, .inl (ca 0, 594, .inl sv))] s.heap := hP
  have hS : va_S (zA [o 0, o 1, o 2]) s.heap s.heap [] := hS
  have hA : ∀ q ∈ [o 0, o 1, o 2], zA [o 0, o 1, o 2] q := fun _ h => h
  have hD := zDto (ws := [(o 0, .inr (7, [.int thr, .ref (o 1), .ref (o 2), .int (nI mm), f4, f5, f6, f7, f8, f9, f10])), (o 1, .inl (ca 0, 99, .inl sf)), (o 2, .inl (ca 0, 594, .inl sv))]) hN hA rfl
  have hx := S.1
  have hb := S.2.1
  have hl : lv_has ls 2 [(0, .ref (o 0)), (1, .int (nI k))] := hl
  have hin : rIn (nI k) 0 23 = true := rIn_t (a := 0) (b := 23) (by omega) (by omega) (by decide)
  have hcan : rCan sf 45 (nI k) (rSeen sf k (sf 0)) = true := by simp [rCan, hs, hin]
  refine lv_aload_n hx hb dX7_take_0 rfl (lv_at hl 0 rfl) ?_
  refine lv_iconst (v := 0) hx hb dX7_take_1 (by decide) ?_
  refine z_put S in_lay_X7 tyX7_ok nmX7 hK hP hD hS rfl 0 rfl 0 (by decide) fl_X7_22 rfl rfl rfl rfl (Nat.le_of_ble_eq_true rfl) dX7_take_2 (fun H locs hP hS => ?_)
  have hP : va_P D vwCl [(o 0, .inr (7, [.int 0, .ref (o 1), .ref (o 2), .int (nI mm), f4, f5, f6, f7, f8, f9, f10])), (o 1, .inl (ca 0, 99, .inl sf)), (o 2, .inl (ca 0, 594, .inl sv))] H := hP
  have hD := zDto (ws := [(o 0, .inr (7, [.int 0, .ref (o 1), .ref (o 2), .int (nI mm), f4, f5, f6, f7, f8, f9, f10])), (o 1, .inl (ca 0, 99, .inl sf)), (o 2, .inl (ca 0, 594, .inl sv))]) hN hA rfl
  refine lv_iload_n hx hb dX7_take_5 rfl (lv_at hl 1 rfl) ?_
  refine zcrS (As := [.int (nI k)]) (rest := []) S (c_X7_isPlace l D ca (nI k)) ml_X7_60 zy_X7_isPlace st_X7_isPlace ⟨Nat.le_of_ble_eq_true rfl, Nat.le_of_ble_eq_true rfl⟩ hK hP [] rfl rfl hl.1 rfl (Nat.le_of_ble_eq_true rfl) ⟨Nat.zero_le _, Nat.zero_le _⟩ dX7_take_6 ?_
  refine zz_ne (tgt := 18) hx hb dX7_take_9 (by decide) (fun _ => ?_) (fun h => False.elim (by revert h; intro h; rw [hin] at h; exact absurd h (by decide)))
  refine lv_aload_n hx hb dX7_take_18 rfl (lv_at hl 0 rfl) ?_
  refine lv_bipush (v := 45) hx hb dX7_take_19 (by decide) ?_
  refine lv_iload_n hx hb dX7_take_21 rfl (lv_at hl 1 rfl) ?_
  refine zcr (As := [.int 45, .int (nI k)]) (rest := []) (q0 := 0) S (c_X7_canChange l D ca o (.int 0) (.ref (o 2)) (.int (nI mm)) f4 f5 f6 f7 f8 f9 f10 sf 45 k (by omega) (by omega)) ml_X7_71 zy_X7_canChange im_X7_canChange se_X7_canChange ⟨Nat.le_of_ble_eq_true rfl, Nat.le_of_ble_eq_true rfl⟩ hK hP [0, 1] rfl rfl rfl rfl rfl hl.1 rfl (Nat.le_of_ble_eq_true rfl) ⟨Nat.zero_le _, Nat.zero_le _⟩ dX7_take_22 ?_
  refine zz_ne (tgt := 34) hx hb dX7_take_25 (by decide) (fun _ => ?_) (fun h => False.elim (by revert h; intro h; rw [hcan] at h; exact absurd h (by decide)))
  refine lv_aload_n hx hb dX7_take_34 rfl (lv_at hl 0 rfl) ?_
  refine zcw (As := []) (rest := []) (st1 := []) (q0 := 0) (lw := [o 0, o 1, o 2]) S (c_X7_saves l D ca o (.int 0) f4 f5 f6 f7 f8 f9 f10 mm sf sv (by first | assumption | omega)  (znd_pick hN [0, 1, 2] rfl rfl)) ml_X7_74 zy_X7_saves im_X7_saves se_X7_saves ⟨Nat.le_of_ble_eq_true rfl, Nat.le_of_ble_eq_true rfl⟩ hK hP hD hS [0, 1, 2] rfl rfl rfl rfl rfl rfl rfl hl.1 rfl rfl (Nat.le_of_ble_eq_true rfl) ⟨Nat.zero_le _, Nat.zero_le _⟩ dX7_take_35 (fun H locs hP hS => ?_)
  have hP : va_P D vwCl [(o 0, .inr (7, [.int 0, .ref (o 1), .ref (o 2), .int (nI (rSm mm)), f4, f5, f6, f7, f8, f9, f10])), (o 1, .inl (ca 0, 99, .inl sf)), (o 2, .inl (ca 0, 594, .inl (rSv sf sv mm)))] H := hP
  have hD := zDto (ws := [(o 0, .inr (7, [.int 0, .ref (o 1), .ref (o 2), .int (nI (rSm mm)), f4, f5, f6, f7, f8, f9, f10])), (o 1, .inl (ca 0, 99, .inl sf)), (o 2, .inl (ca 0, 594, .inl (rSv sf sv mm)))]) hN hA rfl
  have hsm : rSm mm ≤ 6 := by unfold rSm; split <;> omega
  refine lv_aload_n hx hb dX7_take_38 rfl (lv_at hl 0 rfl) ?_
  refine lv_bipush (v := 45) hx hb dX7_take_39 (by decide) ?_
  refine lv_iload_n hx hb dX7_take_41 rfl (lv_at hl 1 rfl) ?_
  refine lv_iconst (v := 0) hx hb dX7_take_42 (by decide) ?_
  refine zcw (As := [.int 45, .int (nI k), .int 0]) (rest := []) (st1 := [.int (zNo (rLow sf))]) (q0 := 0) (lw := [o 0, o 1]) S (c_X7_changes l D ca o (.int 0) (.ref (o 2)) (.int (nI (rSm mm))) f4 f5 f6 f7 f8 f9 f10 sf 45 k 0 (by omega) (by omega) (by first | assumption | omega) (znd_pick hN [0, 1] rfl rfl)) ml_X7_77 zy_X7_changes im_X7_changes se_X7_changes ⟨Nat.le_of_ble_eq_true rfl, Nat.le_of_ble_eq_true rfl⟩ hK hP hD hS [0, 1] rfl rfl rfl rfl rfl rfl rfl hl.1 rfl rfl (Nat.le_of_ble_eq_true rfl) ⟨Nat.zero_le _, Nat.zero_le _⟩ dX7_take_43 (fun H locs hP hS => ?_)
  have hP : va_P D vwCl [(o 0, .inr (7, [.int 0, .ref (o 1), .ref (o 2), .int (nI (rSm mm)), f4, f5, f6, f7, f8, f9, f10])), (o 1, .inl (ca 0, 99, .inl (rChg sf 45 k 0))), (o 2, .inl (ca 0, 594, .inl (rSv sf sv mm)))] H := hP
  have hD := zDto (ws := [(o 0, .inr (7, [.int 0, .ref (o 1), .ref (o 2), .int (nI (rSm mm)), f4, f5, f6, f7, f8, f9, f10])), (o 1, .inl (ca 0, 99, .inl (rChg sf 45 k 0))), (o 2, .inl (ca 0, 594, .inl (rSv sf sv mm)))]) hN hA rfl
  refine lv_pop hx hb dX7_take_46 rfl ?_
  refine lv_aload_n hx hb dX7_take_47 rfl (lv_at hl 0 rfl) ?_
  refine lv_iload_n hx hb dX7_take_48 rfl (lv_at hl 1 rfl) ?_
  refine lv_iconst (v := 0) hx hb dX7_take_49 (by decide) ?_
  refine zcr (As := [.int (nI k), .int 0]) (rest := []) (q0 := 0) S (c_X7_of l D ca o (.int 0) (.ref (o 2)) (.int (nI (rSm mm))) f4 f5 f6 f7 f8 f9 f10 (rChg sf 45 k 0) k 0 (by omega) (by omega)) ml_X7_33 zy_X7_of im_X7_of se_X7_of ⟨Nat.le_of_ble_eq_true rfl, Nat.le_of_ble_eq_true rfl⟩ hK hP [0, 1] rfl rfl rfl rfl rfl hl.1 rfl (Nat.le_of_ble_eq_true rfl) ⟨Nat.zero_le _, Nat.zero_le _⟩ dX7_take_50 ?_
  refine lv_iconst (v := 1) hx hb dX7_take_53 (by decide) ?_
  refine lv_isub hx hb dX7_take_54 ?_
  exact zw_i hx hb hr hlk hP hS ⟨by rfl, by rfl⟩ dX7_take_55
set_option maxHeartbeats 4000000 in
set_option maxRecDepth 100000 in
theorem c_X7_change_A (l : Launch) (D : va_G) (ca : Nat → ClassId) (o : Nat → Nat) (f1 f2 f3 f4 f5 f6 f7 f8 f9 f10 : Value) (thr : Int32) (v u : Int32) (hv : rIn v 0 23 = false) (hN : [o 0].Nodup) : zMw l yX7_change cX7_change 3 (some .int) 2 42 D ca [(o 0, .inr (7, [.int thr, f1, f2, f3, f4, f5, f6, f7, f8, f9, f10]))] ([(o 0, .inr (7, [.int 1, f1, f2, f3, f4, f5, f6, f7, f8, f9, f10]))]) [.ref (o 0), .int v, .int u] (some (.int 0)) := by
  refine zMw_of (own := RX7) (by decide) rfl (Nat.le_of_ble_eq_true rfl) ?_
  intro p e s m args below meth c ls S hr hlk hP hK hl hS
  have hP : va_P D vwCl [(o 0, .inr (7, [.int thr, f1, f2, f3, f4, f5, f6, f7, f8, f9, f10]))] s.heap := hP
  have hS : va_S (zA [o 0]) s.heap s.heap [] := hS
  have hA : ∀ q ∈ [o 0], zA [o 0] q := fun _ h => h
  have hD := zDto (ws := [(o 0, .inr (7, [.int thr, f1, f2, f3, f4, f5, f6, f7, f8, f9, f10]))]) hN hA rfl
  have hx := S.1
  have hb := S.2.1
  have hl : lv_has ls 3 [(0, .ref (o 0)), (1, .int v), (2, .int u)] := hl
  refine lv_aload_n hx hb dX7_change_0 rfl (lv_at hl 0 rfl) ?_
  refine lv_iconst (v := 0) hx hb dX7_change_1 (by decide) ?_
  refine z_put S in_lay_X7 tyX7_ok nmX7 hK hP hD hS rfl 0 rfl 0 (by decide) fl_X7_22 rfl rfl rfl rfl (Nat.le_of_ble_eq_true rfl) dX7_change_2 (fun H locs hP hS => ?_)
  have hP : va_P D vwCl [(o 0, .inr (7, [.int 0, f1, f2, f3, f4, f5, f6, f7, f8, f9, f10]))] H := hP
  have hD := zDto (ws := [(o 0, .inr (7, [.int 0, f1, f2, f3, f4, f5, f6, f7, f8, f9, f10]))]) hN hA rfl
  refine lv_iload_n hx hb dX7_change_5 rfl (lv_at hl 1 rfl) ?_
  refine zcrS (As := [.int v]) (rest := []) S (c_X7_isPlace l D ca v) ml_X7_60 zy_X7_isPlace st_X7_isPlace ⟨Nat.le_of_ble_eq_true rfl, Nat.le_of_ble_eq_true rfl⟩ hK hP [] rfl rfl hl.1 rfl (Nat.le_of_ble_eq_true rfl) ⟨Nat.zero_le _, Nat.zero_le _⟩ dX7_change_6 ?_
  refine zz_ne (tgt := 18) hx hb dX7_change_9 (by decide) (fun h => False.elim (by revert h; intro h; rw [hv] at h; exact absurd h (by decide))) (fun _ => ?_)
  refine lv_aload_n hx hb dX7_change_12 rfl (lv_at hl 0 rfl) ?_
  refine lv_iconst (v := 1) hx hb dX7_change_13 (by decide) ?_
  refine zcw (As := [.int 1]) (rest := []) (st1 := [.int 0]) (q0 := 0) (lw := [o 0]) S (c_X7_fails l D ca o f1 f2 f3 f4 f5 f6 f7 f8 f9 f10 0  1 (znd_pick hN [0] rfl rfl)) ml_X7_67 zy_X7_fails im_X7_fails se_X7_fails ⟨Nat.le_of_ble_eq_true rfl, Nat.le_of_ble_eq_true rfl⟩ hK hP hD hS [0] rfl rfl rfl rfl rfl rfl rfl hl.1 rfl rfl (Nat.le_of_ble_eq_true rfl) ⟨Nat.zero_le _, Nat.zero_le _⟩ dX7_change_14 (fun H locs hP hS => ?_)
  have hP : va_P D vwCl [(o 0, .inr (7, [.int 1, f1, f2, f3, f4, f5, f6, f7, f8, f9, f10]))] H := hP
  have hD := zDto (ws := [(o 0, .inr (7, [.int 1, f1, f2, f3, f4, f5, f6, f7, f8, f9, f10]))]) hN hA rfl
  exact zw_i hx hb hr hlk hP hS ⟨by rfl, by rfl⟩ dX7_change_17
set_option maxHeartbeats 4000000 in
set_option maxRecDepth 100000 in
theorem c_X7_change_B (l : Launch) (D : va_G) (ca : Nat → ClassId) (o : Nat → Nat) (f1 f2 f3 f4 f5 f6 f7 f8 f9 f10 : Value) (thr : Int32) (k : Nat) (hk : k < 24) (u : Int32) (hu : rIn u 0 9 = false) (hN : [o 0].Nodup) : zMw l yX7_change cX7_change 3 (some .int) 2 42 D ca [(o 0, .inr (7, [.int thr, f1, f2, f3, f4, f5, f6, f7, f8, f9, f10]))] ([(o 0, .inr (7, [.int 2, f1, f2, f3, f4, f5, f6, f7, f8, f9, f10]))]) [.ref (o 0), .int (nI k), .int u] (some (.int 0)) := by
  refine zMw_of (own := RX7) (by decide) rfl (Nat.le_of_ble_eq_true rfl) ?_
  intro p e s m args below meth c ls S hr hlk hP hK hl hS
  have hP : va_P D vwCl [(o 0, .inr (7, [.int thr, f1, f2, f3, f4, f5, f6, f7, f8, f9, f10]))] s.heap := hP
  have hS : va_S (zA [o 0]) s.heap s.heap [] := hS
  have hA : ∀ q ∈ [o 0], zA [o 0] q := fun _ h => h
  have hD := zDto (ws := [(o 0, .inr (7, [.int thr, f1, f2, f3, f4, f5, f6, f7, f8, f9, f10]))]) hN hA rfl
  have hx := S.1
  have hb := S.2.1
  have hl : lv_has ls 3 [(0, .ref (o 0)), (1, .int (nI k)), (2, .int u)] := hl
  have hin : rIn (nI k) 0 23 = true := rIn_t (a := 0) (b := 23) (by omega) (by omega) (by decide)
  refine lv_aload_n hx hb dX7_change_0 rfl (lv_at hl 0 rfl) ?_
  refine lv_iconst (v := 0) hx hb dX7_change_1 (by decide) ?_
  refine z_put S in_lay_X7 tyX7_ok nmX7 hK hP hD hS rfl 0 rfl 0 (by decide) fl_X7_22 rfl rfl rfl rfl (Nat.le_of_ble_eq_true rfl) dX7_change_2 (fun H locs hP hS => ?_)
  have hP : va_P D vwCl [(o 0, .inr (7, [.int 0, f1, f2, f3, f4, f5, f6, f7, f8, f9, f10]))] H := hP
  have hD := zDto (ws := [(o 0, .inr (7, [.int 0, f1, f2, f3, f4, f5, f6, f7, f8, f9, f10]))]) hN hA rfl
  refine lv_iload_n hx hb dX7_change_5 rfl (lv_at hl 1 rfl) ?_
  refine zcrS (As := [.int (nI k)]) (rest := []) S (c_X7_isPlace l D ca (nI k)) ml_X7_60 zy_X7_isPlace st_X7_isPlace ⟨Nat.le_of_ble_eq_true rfl, Nat.le_of_ble_eq_true rfl⟩ hK hP [] rfl rfl hl.1 rfl (Nat.le_of_ble_eq_true rfl) ⟨Nat.zero_le _, Nat.zero_le _⟩ dX7_change_6 ?_
  refine zz_ne (tgt := 18) hx hb dX7_change_9 (by decide) (fun _ => ?_) (fun h => False.elim (by revert h; intro h; rw [hin] at h; exact absurd h (by decide)))
  refine lv_iload_n hx hb dX7_change_18 rfl (lv_at hl 2 rfl) ?_
  refine lv_iconst (v := 0) hx hb dX7_change_19 (by decide) ?_
  refine lv_bipush (v := 9) hx hb dX7_change_20 (by decide) ?_
  refine zcrS (As := [.int u, .int 0, .int 9]) (rest := []) S (c_X7_in l D ca u 0 9) ml_X7_26 zy_X7_in st_X7_in ⟨Nat.le_of_ble_eq_true rfl, Nat.le_of_ble_eq_true rfl⟩ hK hP [] rfl rfl hl.1 rfl (Nat.le_of_ble_eq_true rfl) ⟨Nat.zero_le _, Nat.zero_le _⟩ dX7_change_22 ?_
  refine zz_ne (tgt := 34) hx hb dX7_change_25 (by decide) (fun h => False.elim (by revert h; intro h; rw [hu] at h; exact absurd h (by decide))) (fun _ => ?_)
  refine lv_aload_n hx hb dX7_change_28 rfl (lv_at hl 0 rfl) ?_
  refine lv_iconst (v := 2) hx hb dX7_change_29 (by decide) ?_
  refine zcw (As := [.int 2]) (rest := []) (st1 := [.int 0]) (q0 := 0) (lw := [o 0]) S (c_X7_fails l D ca o f1 f2 f3 f4 f5 f6 f7 f8 f9 f10 0  2 (znd_pick hN [0] rfl rfl)) ml_X7_67 zy_X7_fails im_X7_fails se_X7_fails ⟨Nat.le_of_ble_eq_true rfl, Nat.le_of_ble_eq_true rfl⟩ hK hP hD hS [0] rfl rfl rfl rfl rfl rfl rfl hl.1 rfl rfl (Nat.le_of_ble_eq_true rfl) ⟨Nat.zero_le _, Nat.zero_le _⟩ dX7_change_30 (fun H locs hP hS => ?_)
  have hP : va_P D vwCl [(o 0, .inr (7, [.int 2, f1, f2, f3, f4, f5, f6, f7, f8, f9, f10]))] H := hP
  have hD := zDto (ws := [(o 0, .inr (7, [.int 2, f1, f2, f3, f4, f5, f6, f7, f8, f9, f10]))]) hN hA rfl
  exact zw_i hx hb hr hlk hP hS ⟨by rfl, by rfl⟩ dX7_change_33
set_option maxHeartbeats 4000000 in
set_option maxRecDepth 100000 in
theorem c_X7_change_C (l : Launch) (D : va_G) (ca : Nat → ClassId) (o : Nat → Nat) (f2 f3 f4 f5 f6 f7 f8 f9 f10 : Value) (thr : Int32) (sf : Nat → Int32) (k : Nat) (hk : k < 24) (u : Int32) (hu : rIn u 0 9 = true) (hs : (rSeen sf k (sf 0) && decide (rLow sf < 24)) = false) (hN : [o 0, o 1].Nodup) : zMw l yX7_change cX7_change 3 (some .int) 4 89 D ca [(o 0, .inr (7, [.int thr, .ref (o 1), f2, f3, f4, f5, f6, f7, f8, f9, f10])), (o 1, .inl (ca 0, 99, .inl sf))] ([(o 0, .inr (7, [.int 3, .ref (o 1), f2, f3, f4, f5, f6, f7, f8, f9, f10])), (o 1, .inl (ca 0, 99, .inl sf))]) [.ref (o 0), .int (nI k), .int u] (some (.int 0)) := by
  refine zMw_of (own := RX7) (by decide) rfl (Nat.le_of_ble_eq_true rfl) ?_
  intro p e s m args below meth c ls S hr hlk hP hK hl hS
  have hP : va_P D vwCl [(o 0, .inr (7, [.int thr, .ref (o 1), f2, f3, f4, f5, f6, f7, f8, f9, f10])), (o 1, .inl (ca 0, 99, .inl sf))] s.heap := hP
  have hS : va_S (zA [o 0, o 1]) s.heap s.heap [] := hS
  have hA : ∀ q ∈ [o 0, o 1], zA [o 0, o 1] q := fun _ h => h
  have hD := zDto (ws := [(o 0, .inr (7, [.int thr, .ref (o 1), f2, f3, f4, f5, f6, f7, f8, f9, f10])), (o 1, .inl (ca 0, 99, .inl sf))]) hN hA rfl
  have hx := S.1
  have hb := S.2.1
  have hl : lv_has ls 3 [(0, .ref (o 0)), (1, .int (nI k)), (2, .int u)] := hl
  have hin : rIn (nI k) 0 23 = true := rIn_t (a := 0) (b := 23) (by omega) (by omega) (by decide)
  have hcan : rCan sf 61 (nI k) (rSeen sf k (sf 0)) = false := by simpa [rCan, hin] using hs
  refine lv_aload_n hx hb dX7_change_0 rfl (lv_at hl 0 rfl) ?_
  refine lv_iconst (v := 0) hx hb dX7_change_1 (by decide) ?_
  refine z_put S in_lay_X7 tyX7_ok nmX7 hK hP hD hS rfl 0 rfl 0 (by decide) fl_X7_22 rfl rfl rfl rfl (Nat.le_of_ble_eq_true rfl) dX7_change_2 (fun H locs hP hS => ?_)
  have hP : va_P D vwCl [(o 0, .inr (7, [.int 0, .ref (o 1), f2, f3, f4, f5, f6, f7, f8, f9, f10])), (o 1, .inl (ca 0, 99, .inl sf))] H := hP
  have hD := zDto (ws := [(o 0, .inr (7, [.int 0, .ref (o 1), f2, f3, f4, f5, f6, f7, f8, f9, f10])), (o 1, .inl (ca 0, 99, .inl sf))]) hN hA rfl
  refine lv_iload_n hx hb dX7_change_5 rfl (lv_at hl 1 rfl) ?_
  refine zcrS (As := [.int (nI k)]) (rest := []) S (c_X7_isPlace l D ca (nI k)) ml_X7_60 zy_X7_isPlace st_X7_isPlace ⟨Nat.le_of_ble_eq_true rfl, Nat.le_of_ble_eq_true rfl⟩ hK hP [] rfl rfl hl.1 rfl (Nat.le_of_ble_eq_true rfl) ⟨Nat.zero_le _, Nat.zero_le _⟩ dX7_change_6 ?_
  refine zz_ne (tgt := 18) hx hb dX7_change_9 (by decide) (fun _ => ?_) (fun h => False.elim (by revert h; intro h; rw [hin] at h; exact absurd h (by decide)))
  refine lv_iload_n hx hb dX7_change_18 rfl (lv_at hl 2 rfl) ?_
  refine lv_iconst (v := 0) hx hb dX7_change_19 (by decide) ?_
  refine lv_bipush (v := 9) hx hb dX7_change_20 (by decide) ?_
  refine zcrS (As := [.int u, .int 0, .int 9]) (rest := []) S (c_X7_in l D ca u 0 9) ml_X7_26 zy_X7_in st_X7_in ⟨Nat.le_of_ble_eq_true rfl, Nat.le_of_ble_eq_true rfl⟩ hK hP [] rfl rfl hl.1 rfl (Nat.le_of_ble_eq_true rfl) ⟨Nat.zero_le _, Nat.zero_le _⟩ dX7_change_22 ?_
  refine zz_ne (tgt := 34) hx hb dX7_change_25 (by decide) (fun _ => ?_) (fun h => False.elim (by revert h; intro h; rw [hu] at h; exact absurd h (by decide)))
  refine lv_aload_n hx hb dX7_change_34 rfl (lv_at hl 0 rfl) ?_
  refine lv_bipush (v := 61) hx hb dX7_change_35 (by decide) ?_
  refine lv_iload_n hx hb dX7_change_37 rfl (lv_at hl 1 rfl) ?_
  refine zcr (As := [.int 61, .int (nI k)]) (rest := []) (q0 := 0) S (c_X7_canChange l D ca o (.int 0) f2 f3 f4 f5 f6 f7 f8 f9 f10 sf 61 k (by omega) (by omega)) ml_X7_71 zy_X7_canChange im_X7_canChange se_X7_canChange ⟨Nat.le_of_ble_eq_true rfl, Nat.le_of_ble_eq_true rfl⟩ hK hP [0, 1] rfl rfl rfl rfl rfl hl.1 rfl (Nat.le_of_ble_eq_true rfl) ⟨Nat.zero_le _, Nat.zero_le _⟩ dX7_change_38 ?_
  refine zz_ne (tgt := 50) hx hb dX7_change_41 (by decide) (fun h => False.elim (by revert h; intro h; rw [hcan] at h; exact absurd h (by decide))) (fun _ => ?_)
  refine lv_aload_n hx hb dX7_change_44 rfl (lv_at hl 0 rfl) ?_
  refine lv_iconst (v := 3) hx hb dX7_change_45 (by decide) ?_
  refine zcw (As := [.int 3]) (rest := []) (st1 := [.int 0]) (q0 := 0) (lw := [o 0]) S (c_X7_fails l D ca o (.ref (o 1)) f2 f3 f4 f5 f6 f7 f8 f9 f10 0  3 (znd_pick hN [0] rfl rfl)) ml_X7_67 zy_X7_fails im_X7_fails se_X7_fails ⟨Nat.le_of_ble_eq_true rfl, Nat.le_of_ble_eq_true rfl⟩ hK hP hD hS [0] rfl rfl rfl rfl rfl rfl rfl hl.1 rfl rfl (Nat.le_of_ble_eq_true rfl) ⟨Nat.zero_le _, Nat.zero_le _⟩ dX7_change_46 (fun H locs hP hS => ?_)
  have hP : va_P D vwCl [(o 0, .inr (7, [.int 3, .ref (o 1), f2, f3, f4, f5, f6, f7, f8, f9, f10])), (o 1, .inl (ca 0, 99, .inl sf))] H := hP
  have hD := zDto (ws := [(o 0, .inr (7, [.int 3, .ref (o 1), f2, f3, f4, f5, f6, f7, f8, f9, f10])), (o 1, .inl (ca 0, 99, .inl sf))]) hN hA rfl
  exact zw_i hx hb hr hlk hP hS ⟨by rfl, by rfl⟩ dX7_change_49
set_option maxHeartbeats 4000000 in
set_option maxRecDepth 100000 in
theorem c_X7_change_D (l : Launch) (D : va_G) (ca : Nat → ClassId) (o : Nat → Nat) (f4 f5 f6 f7 f8 f9 f10 : Value) (thr : Int32) (mm : Nat) (sf : Nat → Int32) (sv : Nat → Int32) (h0 : mm ≤ 6) (k : Nat) (hk : k < 24) (u : Int32) (hu : rIn u 0 9 = true) (hs : rSeen sf k (sf 0) = true) (hlo : rLow sf < 24) (hN : [o 0, o 1, o 2].Nodup) : zMw l yX7_change cX7_change 3 (some .int) 4 89 D ca [(o 0, .inr (7, [.int thr, .ref (o 1), .ref (o 2), .int (nI mm), f4, f5, f6, f7, f8, f9, f10])), (o 1, .inl (ca 0, 99, .inl sf)), (o 2, .inl (ca 0, 594, .inl sv))] ([(o 0, .inr (7, [.int 0, .ref (o 1), .ref (o 2), .int (nI (rSm mm)), f4, f5, f6, f7, f8, f9, f10])), (o 1, .inl (ca 0, 99, .inl (rChg sf 61 k u))), (o 2, .inl (ca 0, 594, .inl (rSv sf sv mm)))]) [.ref (o 0), .int (nI k), .int u] (some (.int (nI (rLow sf)))) := by
  refine zMw_of (own := RX7) (by decide) rfl (Nat.le_of_ble_eq_true rfl) ?_
  intro p e s m args below meth c ls S hr hlk hP hK hl hS
  have hP : va_P D vwCl [(o 0, .inr (7, [.int thr, .ref (o 1), .ref (o 2), .int (nI mm), f4, f5, f6, f7, f8, f9, f10])), (o 1, .inl (ca 0, 99, .inl sf)), (o 2, .inl (ca 0, 594, .inl sv))] s.heap := hP
  have hS : va_S (zA [o 0, o 1, o 2]) s.heap s.heap [] := hS
  have hA : ∀ q ∈ [o 0, o 1, o 2], zA [o 0, o 1, o 2] q := fun _ h => h
  have hD := zDto (ws := [(o 0, .inr (7, [.int thr, .ref (o 1), .ref (o 2), .int (nI mm), f4, f5, f6, f7, f8, f9, f10])), (o 1, .inl (ca 0, 99, .inl sf)), (o 2, .inl (ca 0, 594, .inl sv))]) hN hA rfl
  have hx := S.1
  have hb := S.2.1
  have hl : lv_has ls 3 [(0, .ref (o 0)), (1, .int (nI k)), (2, .int u)] := hl
  have hin : rIn (nI k) 0 23 = true := rIn_t (a := 0) (b := 23) (by omega) (by omega) (by decide)
  have hcan : rCan sf 61 (nI k) (rSeen sf k (sf 0)) = true := by simp [rCan, hin, hs, hlo]
  refine lv_aload_n hx hb dX7_change_0 rfl (lv_at hl 0 rfl) ?_
  refine lv_iconst (v := 0) hx hb dX7_change_1 (by decide) ?_
  refine z_put S in_lay_X7 tyX7_ok nmX7 hK hP hD hS rfl 0 rfl 0 (by decide) fl_X7_22 rfl rfl rfl rfl (Nat.le_of_ble_eq_true rfl) dX7_change_2 (fun H locs hP hS => ?_)
  have hP : va_P D vwCl [(o 0, .inr (7, [.int 0, .ref (o 1), .ref (o 2), .int (nI mm), f4, f5, f6, f7, f8, f9, f10])), (o 1, .inl (ca 0, 99, .inl sf)), (o 2, .inl (ca 0, 594, .inl sv))] H := hP
  have hD := zDto (ws := [(o 0, .inr (7, [.int 0, .ref (o 1), .ref (o 2), .int (nI mm), f4, f5, f6, f7, f8, f9, f10])), (o 1, .inl (ca 0, 99, .inl sf)), (o 2, .inl (ca 0, 594, .inl sv))]) hN hA rfl
  refine lv_iload_n hx hb dX7_change_5 rfl (lv_at hl 1 rfl) ?_
  refine zcrS (As := [.int (nI k)]) (rest := []) S (c_X7_isPlace l D ca (nI k)) ml_X7_60 zy_X7_isPlace st_X7_isPlace ⟨Nat.le_of_ble_eq_true rfl, Nat.le_of_ble_eq_true rfl⟩ hK hP [] rfl rfl hl.1 rfl (Nat.le_of_ble_eq_true rfl) ⟨Nat.zero_le _, Nat.zero_le _⟩ dX7_change_6 ?_
  refine zz_ne (tgt := 18) hx hb dX7_change_9 (by decide) (fun _ => ?_) (fun h => False.elim (by revert h; intro h; rw [hin] at h; exact absurd h (by decide)))
  refine lv_iload_n hx hb dX7_change_18 rfl (lv_at hl 2 rfl) ?_
  refine lv_iconst (v := 0) hx hb dX7_change_19 (by decide) ?_
  refine lv_bipush (v := 9) hx hb dX7_change_20 (by decide) ?_
  refine zcrS (As := [.int u, .int 0, .int 9]) (rest := []) S (c_X7_in l D ca u 0 9) ml_X7_26 zy_X7_in st_X7_in ⟨Nat.le_of_ble_eq_true rfl, Nat.le_of_ble_eq_true rfl⟩ hK hP [] rfl rfl hl.1 rfl (Nat.le_of_ble_eq_true rfl) ⟨Nat.zero_le _, Nat.zero_le _⟩ dX7_change_22 ?_
  refine zz_ne (tgt := 34) hx hb dX7_change_25 (by decide) (fun _ => ?_) (fun h => False.elim (by revert h; intro h; rw [hu] at h; exact absurd h (by decide)))
  refine lv_aload_n hx hb dX7_change_34 rfl (lv_at hl 0 rfl) ?_
  refine lv_bipush (v := 61) hx hb dX7_change_35 (by decide) ?_
  refine lv_iload_n hx hb dX7_change_37 rfl (lv_at hl 1 rfl) ?_
  refine zcr (As := [.int 61, .int (nI k)]) (rest := []) (q0 := 0) S (c_X7_canChange l D ca o (.int 0) (.ref (o 2)) (.int (nI mm)) f4 f5 f6 f7 f8 f9 f10 sf 61 k (by omega) (by omega)) ml_X7_71 zy_X7_canChange im_X7_canChange se_X7_canChange ⟨Nat.le_of_ble_eq_true rfl, Nat.le_of_ble_eq_true rfl⟩ hK hP [0, 1] rfl rfl rfl rfl rfl hl.1 rfl (Nat.le_of_ble_eq_true rfl) ⟨Nat.zero_le _, Nat.zero_le _⟩ dX7_change_38 ?_
  refine zz_ne (tgt := 50) hx hb dX7_change_41 (by decide) (fun _ => ?_) (fun h => False.elim (by revert h; intro h; rw [hcan] at h; exact absurd h (by decide)))
  refine lv_aload_n hx hb dX7_change_50 rfl (lv_at hl 0 rfl) ?_
  refine zcw (As := []) (rest := []) (st1 := []) (q0 := 0) (lw := [o 0, o 1, o 2]) S (c_X7_saves l D ca o (.int 0) f4 f5 f6 f7 f8 f9 f10 mm sf sv (by first | assumption | omega)  (znd_pick hN [0, 1, 2] rfl rfl)) ml_X7_74 zy_X7_saves im_X7_saves se_X7_saves ⟨Nat.le_of_ble_eq_true rfl, Nat.le_of_ble_eq_true rfl⟩ hK hP hD hS [0, 1, 2] rfl rfl rfl rfl rfl rfl rfl hl.1 rfl rfl (Nat.le_of_ble_eq_true rfl) ⟨Nat.zero_le _, Nat.zero_le _⟩ dX7_change_51 (fun H locs hP hS => ?_)
  have hP : va_P D vwCl [(o 0, .inr (7, [.int 0, .ref (o 1), .ref (o 2), .int (nI (rSm mm)), f4, f5, f6, f7, f8, f9, f10])), (o 1, .inl (ca 0, 99, .inl sf)), (o 2, .inl (ca 0, 594, .inl (rSv sf sv mm)))] H := hP
  have hD := zDto (ws := [(o 0, .inr (7, [.int 0, .ref (o 1), .ref (o 2), .int (nI (rSm mm)), f4, f5, f6, f7, f8, f9, f10])), (o 1, .inl (ca 0, 99, .inl sf)), (o 2, .inl (ca 0, 594, .inl (rSv sf sv mm)))]) hN hA rfl
  have hsm : rSm mm ≤ 6 := by unfold rSm; split <;> omega
  refine lv_aload_n hx hb dX7_change_54 rfl (lv_at hl 0 rfl) ?_
  refine lv_bipush (v := 61) hx hb dX7_change_55 (by decide) ?_
  refine lv_iload_n hx hb dX7_change_57 rfl (lv_at hl 1 rfl) ?_
  refine lv_iload_n hx hb dX7_change_58 rfl (lv_at hl 2 rfl) ?_
  refine zcw (As := [.int 61, .int (nI k), .int u]) (rest := []) (st1 := [.int (zNo (rLow sf))]) (q0 := 0) (lw := [o 0, o 1]) S (c_X7_changes l D ca o (.int 0) (.ref (o 2)) (.int (nI (rSm mm))) f4 f5 f6 f7 f8 f9 f10 sf 61 k u (by omega) (by omega) (by first | assumption | omega) (znd_pick hN [0, 1] rfl rfl)) ml_X7_77 zy_X7_changes im_X7_changes se_X7_changes ⟨Nat.le_of_ble_eq_true rfl, Nat.le_of_ble_eq_true rfl⟩ hK hP hD hS [0, 1] rfl rfl rfl rfl rfl rfl rfl hl.1 rfl rfl (Nat.le_of_ble_eq_true rfl) ⟨Nat.zero_le _, Nat.zero_le _⟩ dX7_change_59 (fun H locs hP hS => ?_)
  have hP : va_P D vwCl [(o 0, .inr (7, [.int 0, .ref (o 1), .ref (o 2), .int (nI (rSm mm)), f4, f5, f6, f7, f8, f9, f10])), (o 1, .inl (ca 0, 99, .inl (rChg sf 61 k u))), (o 2, .inl (ca 0, 594, .inl (rSv sf sv mm)))] H := hP
  have hD := zDto (ws := [(o 0, .inr (7, [.int 0, .ref (o 1), .ref (o 2), .int (nI (rSm mm)), f4, f5, f6, f7, f8, f9, f10])), (o 1, .inl (ca 0, 99, .inl (rChg sf 61 k u))), (o 2, .inl (ca 0, 594, .inl (rSv sf sv mm)))]) hN hA rfl
  exact zw_i hx hb hr hlk hP hS ⟨by rw [zNo, if_pos hlo], by rfl⟩ dX7_change_62
set_option maxHeartbeats 4000000 in
set_option maxRecDepth 100000 in
theorem c_X7_open_A (l : Launch) (D : va_G) (ca : Nat → ClassId) (o : Nat → Nat) (f1 f2 f3 f4 f5 f6 f7 f8 f9 f10 : Value) (thr : Int32) (v : Int32) (hv : rIn v 0 3 = false) (hN : [o 0].Nodup) : zMw l yX7_open cX7_open 2 (some .int) 2 42 D ca [(o 0, .inr (7, [.int thr, f1, f2, f3, f4, f5, f6, f7, f8, f9, f10]))] ([(o 0, .inr (7, [.int 1, f1, f2, f3, f4, f5, f6, f7, f8, f9, f10]))]) [.ref (o 0), .int v] (some (.int 0)) := by
  refine zMw_of (own := RX7) (by decide) rfl (Nat.le_of_ble_eq_true rfl) ?_
  intro p e s m args below meth c ls S hr hlk hP hK hl hS
  have hP : va_P D vwCl [(o 0, .inr (7, [.int thr, f1, f2, f3, f4, f5, f6, f7, f8, f9, f10]))] s.heap := hP
  have hS : va_S (zA [o 0]) s.heap s.heap [] := hS
  have hA : ∀ q ∈ [o 0], zA [o 0] q := fun _ h => h
  have hD := zDto (ws := [(o 0, .inr (7, [.int thr, f1, f2, f3, f4, f5, f6, f7, f8, f9, f10]))]) hN hA rfl
  have hx := S.1
  have hb := S.2.1
  have hl : lv_has ls 2 [(0, .ref (o 0)), (1, .int v)] := hl
  refine lv_aload_n hx hb dX7_open_0 rfl (lv_at hl 0 rfl) ?_
  refine lv_iconst (v := 0) hx hb dX7_open_1 (by decide) ?_
  refine z_put S in_lay_X7 tyX7_ok nmX7 hK hP hD hS rfl 0 rfl 0 (by decide) fl_X7_22 rfl rfl rfl rfl (Nat.le_of_ble_eq_true rfl) dX7_open_2 (fun H locs hP hS => ?_)
  have hP : va_P D vwCl [(o 0, .inr (7, [.int 0, f1, f2, f3, f4, f5, f6, f7, f8, f9, f10]))] H := hP
  have hD := zDto (ws := [(o 0, .inr (7, [.int 0, f1, f2, f3, f4, f5, f6, f7, f8, f9, f10]))]) hN hA rfl
  refine lv_iload_n hx hb dX7_open_5 rfl (lv_at hl 1 rfl) ?_
  refine zcrS (As := [.int v]) (rest := []) S (c_X7_isAsker l D ca v) ml_X7_87 zy_X7_isAsker st_X7_isAsker ⟨Nat.le_of_ble_eq_true rfl, Nat.le_of_ble_eq_true rfl⟩ hK hP [] rfl rfl hl.1 rfl (Nat.le_of_ble_eq_true rfl) ⟨Nat.zero_le _, Nat.zero_le _⟩ dX7_open_6 ?_
  refine zz_ne (tgt := 18) hx hb dX7_open_9 (by decide) (fun h => False.elim (by revert h; intro h; rw [hv] at h; exact absurd h (by decide))) (fun _ => ?_)
  refine lv_aload_n hx hb dX7_open_12 rfl (lv_at hl 0 rfl) ?_
  refine lv_iconst (v := 1) hx hb dX7_open_13 (by decide) ?_
  refine zcw (As := [.int 1]) (rest := []) (st1 := [.int 0]) (q0 := 0) (lw := [o 0]) S (c_X7_fails l D ca o f1 f2 f3 f4 f5 f6 f7 f8 f9 f10 0  1 (znd_pick hN [0] rfl rfl)) ml_X7_67 zy_X7_fails im_X7_fails se_X7_fails ⟨Nat.le_of_ble_eq_true rfl, Nat.le_of_ble_eq_true rfl⟩ hK hP hD hS [0] rfl rfl rfl rfl rfl rfl rfl hl.1 rfl rfl (Nat.le_of_ble_eq_true rfl) ⟨Nat.zero_le _, Nat.zero_le _⟩ dX7_open_14 (fun H locs hP hS => ?_)
  have hP : va_P D vwCl [(o 0, .inr (7, [.int 1, f1, f2, f3, f4, f5, f6, f7, f8, f9, f10]))] H := hP
  have hD := zDto (ws := [(o 0, .inr (7, [.int 1, f1, f2, f3, f4, f5, f6, f7, f8, f9, f10]))]) hN hA rfl
  exact zw_i hx hb hr hlk hP hS ⟨by rfl, by rfl⟩ dX7_open_17
set_option maxHeartbeats 4000000 in
set_option maxRecDepth 100000 in
theorem c_X7_open_B (l : Launch) (D : va_G) (ca : Nat → ClassId) (o : Nat → Nat) (f4 f5 f6 f7 f8 f9 f10 : Value) (thr : Int32) (mm : Nat) (sf : Nat → Int32) (sv : Nat → Int32) (h0 : mm ≤ 6) (k : Nat) (hk : k < 4) (hN : [o 0, o 1, o 2].Nodup) : zMw l yX7_open cX7_open 2 (some .int) 2 42 D ca [(o 0, .inr (7, [.int thr, .ref (o 1), .ref (o 2), .int (nI mm), f4, f5, f6, f7, f8, f9, f10])), (o 1, .inl (ca 0, 99, .inl sf)), (o 2, .inl (ca 0, 594, .inl sv))] ([(o 0, .inr (7, [.int 0, .ref (o 1), .ref (o 2), .int (nI (rSm mm)), f4, f5, f6, f7, f8, f9, f10])), (o 1, .inl (ca 0, 99, .inl (upd sf (91 + 2 * k) (sf 0 + 1)))), (o 2, .inl (ca 0, 594, .inl (rSv sf sv mm)))]) [.ref (o 0), .int (nI k)] (some (.int (upd sf (91 + 2 * k) (sf 0 + 1) 0))) := by
  refine zMw_of (own := RX7) (by decide) rfl (Nat.le_of_ble_eq_true rfl) ?_
  intro p e s m args below meth c ls S hr hlk hP hK hl hS
  have hP : va_P D vwCl [(o 0, .inr (7, [.int thr, .ref (o 1), .ref (o 2), .int (nI mm), f4, f5, f6, f7, f8, f9, f10])), (o 1, .inl (ca 0, 99, .inl sf)), (o 2, .inl (ca 0, 594, .inl sv))] s.heap := hP
  have hS : va_S (zA [o 0, o 1, o 2]) s.heap s.heap [] := hS
  have hA : ∀ q ∈ [o 0, o 1, o 2], zA [o 0, o 1, o 2] q := fun _ h => h
  have hD := zDto (ws := [(o 0, .inr (7, [.int thr, .ref (o 1), .ref (o 2), .int (nI mm), f4, f5, f6, f7, f8, f9, f10])), (o 1, .inl (ca 0, 99, .inl sf)), (o 2, .inl (ca 0, 594, .inl sv))]) hN hA rfl
  have hx := S.1
  have hb := S.2.1
  have hl : lv_has ls 2 [(0, .ref (o 0)), (1, .int (nI k))] := hl
  have hin : rIn (nI k) 0 3 = true := rIn_t (a := 0) (b := 3) (by omega) (by omega) (by decide)
  refine lv_aload_n hx hb dX7_open_0 rfl (lv_at hl 0 rfl) ?_
  refine lv_iconst (v := 0) hx hb dX7_open_1 (by decide) ?_
  refine z_put S in_lay_X7 tyX7_ok nmX7 hK hP hD hS rfl 0 rfl 0 (by decide) fl_X7_22 rfl rfl rfl rfl (Nat.le_of_ble_eq_true rfl) dX7_open_2 (fun H locs hP hS => ?_)
  have hP : va_P D vwCl [(o 0, .inr (7, [.int 0, .ref (o 1), .ref (o 2), .int (nI mm), f4, f5, f6, f7, f8, f9, f10])), (o 1, .inl (ca 0, 99, .inl sf)), (o 2, .inl (ca 0, 594, .inl sv))] H := hP
  have hD := zDto (ws := [(o 0, .inr (7, [.int 0, .ref (o 1), .ref (o 2), .int (nI mm), f4, f5, f6, f7, f8, f9, f10])), (o 1, .inl (ca 0, 99, .inl sf)), (o 2, .inl (ca 0, 594, .inl sv))]) hN hA rfl
  refine lv_iload_n hx hb dX7_open_5 rfl (lv_at hl 1 rfl) ?_
  refine zcrS (As := [.int (nI k)]) (rest := []) S (c_X7_isAsker l D ca (nI k)) ml_X7_87 zy_X7_isAsker st_X7_isAsker ⟨Nat.le_of_ble_eq_true rfl, Nat.le_of_ble_eq_true rfl⟩ hK hP [] rfl rfl hl.1 rfl (Nat.le_of_ble_eq_true rfl) ⟨Nat.zero_le _, Nat.zero_le _⟩ dX7_open_6 ?_
  refine zz_ne (tgt := 18) hx hb dX7_open_9 (by decide) (fun _ => ?_) (fun h => False.elim (by revert h; intro h; rw [hin] at h; exact absurd h (by decide)))
  refine lv_aload_n hx hb dX7_open_18 rfl (lv_at hl 0 rfl) ?_
  refine zcw (As := []) (rest := []) (st1 := []) (q0 := 0) (lw := [o 0, o 1, o 2]) S (c_X7_saves l D ca o (.int 0) f4 f5 f6 f7 f8 f9 f10 mm sf sv (by first | assumption | omega)  (znd_pick hN [0, 1, 2] rfl rfl)) ml_X7_74 zy_X7_saves im_X7_saves se_X7_saves ⟨Nat.le_of_ble_eq_true rfl, Nat.le_of_ble_eq_true rfl⟩ hK hP hD hS [0, 1, 2] rfl rfl rfl rfl rfl rfl rfl hl.1 rfl rfl (Nat.le_of_ble_eq_true rfl) ⟨Nat.zero_le _, Nat.zero_le _⟩ dX7_open_19 (fun H locs hP hS => ?_)
  have hP : va_P D vwCl [(o 0, .inr (7, [.int 0, .ref (o 1), .ref (o 2), .int (nI (rSm mm)), f4, f5, f6, f7, f8, f9, f10])), (o 1, .inl (ca 0, 99, .inl sf)), (o 2, .inl (ca 0, 594, .inl (rSv sf sv mm)))] H := hP
  have hD := zDto (ws := [(o 0, .inr (7, [.int 0, .ref (o 1), .ref (o 2), .int (nI (rSm mm)), f4, f5, f6, f7, f8, f9, f10])), (o 1, .inl (ca 0, 99, .inl sf)), (o 2, .inl (ca 0, 594, .inl (rSv sf sv mm)))]) hN hA rfl
  have hsm : rSm mm ≤ 6 := by unfold rSm; split <;> omega
  refine lv_aload_n hx hb dX7_open_22 rfl (lv_at hl 0 rfl) ?_
  refine z_get S in_lay_X7 hK hP rfl 0 rfl 1 (by decide) fl_X7_7 rfl rfl dX7_open_23 ?_
  refine lv_bipush (v := 91) hx hb dX7_open_26 (by decide) ?_
  refine lv_iconst (v := 2) hx hb dX7_open_28 (by decide) ?_
  refine lv_iload_n hx hb dX7_open_29 rfl (lv_at hl 1 rfl) ?_
  refine zn_mul hx hb (x := 2) (y := k) (z := 2 * k) (by first | rfl | omega) dX7_open_30 ?_
  refine zn_add hx hb (x := 91) (y := 2 * k) (z := 91 + (2 * k)) (by omega) dX7_open_31 ?_
  refine lv_iconst (v := 0) hx hb dX7_open_32 (by decide) ?_
  refine zn_add hx hb (x := 91 + (2 * k)) (y := 0) (z := 91 + (2 * k)) (by omega) dX7_open_33 ?_
  refine lv_aload_n hx hb dX7_open_34 rfl (lv_at hl 0 rfl) ?_
  refine z_get S in_lay_X7 hK hP rfl 0 rfl 1 (by decide) fl_X7_7 rfl rfl dX7_open_35 ?_
  refine lv_iconst (v := 0) hx hb dX7_open_38 (by decide) ?_
  refine z_iald S hK hP 1 rfl (j := 0) (by omega) (by decide) dX7_open_39 ?_
  refine lv_iconst (v := 1) hx hb dX7_open_40 (by decide) ?_
  refine lv_iadd hx hb dX7_open_41 ?_
  refine z_iast S hK hP hD hS 1 rfl (j := 91 + (2 * k)) (by omega) (by decide) dX7_open_42 (fun H locs hP hS => ?_)
  have hP : va_P D vwCl [(o 0, .inr (7, [.int 0, .ref (o 1), .ref (o 2), .int (nI (rSm mm)), f4, f5, f6, f7, f8, f9, f10])), (o 1, .inl (ca 0, 99, .inl (upd sf (91 + (2 * k)) ((sf 0) + 1)))), (o 2, .inl (ca 0, 594, .inl (rSv sf sv mm)))] H := hP
  have hD := zDto (ws := [(o 0, .inr (7, [.int 0, .ref (o 1), .ref (o 2), .int (nI (rSm mm)), f4, f5, f6, f7, f8, f9, f10])), (o 1, .inl (ca 0, 99, .inl (upd sf (91 + (2 * k)) ((sf 0) + 1)))), (o 2, .inl (ca 0, 594, .inl (rSv sf sv mm)))]) hN hA rfl
  refine lv_aload_n hx hb dX7_open_43 rfl (lv_at hl 0 rfl) ?_
  refine z_get S in_lay_X7 hK hP rfl 0 rfl 1 (by decide) fl_X7_7 rfl rfl dX7_open_44 ?_
  refine lv_iconst (v := 0) hx hb dX7_open_47 (by decide) ?_
  refine z_iald S hK hP 1 rfl (j := 0) (by omega) (by decide) dX7_open_48 ?_
  exact zw_i hx hb hr hlk hP hS ⟨by rfl, by rfl⟩ dX7_open_49
set_option maxHeartbeats 4000000 in
set_option maxRecDepth 100000 in
theorem c_X7_close_A (l : Launch) (D : va_G) (ca : Nat → ClassId) (o : Nat → Nat) (f1 f2 f3 f4 f5 f6 f7 f8 f9 f10 : Value) (thr : Int32) (v : Int32) (hv : rIn v 0 3 = false) (hN : [o 0].Nodup) : zMw l yX7_close cX7_close 3 (some .int) 2 42 D ca [(o 0, .inr (7, [.int thr, f1, f2, f3, f4, f5, f6, f7, f8, f9, f10]))] ([(o 0, .inr (7, [.int 1, f1, f2, f3, f4, f5, f6, f7, f8, f9, f10]))]) [.ref (o 0), .int v] (some (.int 0)) := by
  refine zMw_of (own := RX7) (by decide) rfl (Nat.le_of_ble_eq_true rfl) ?_
  intro p e s m args below meth c ls S hr hlk hP hK hl hS
  have hP : va_P D vwCl [(o 0, .inr (7, [.int thr, f1, f2, f3, f4, f5, f6, f7, f8, f9, f10]))] s.heap := hP
  have hS : va_S (zA [o 0]) s.heap s.heap [] := hS
  have hA : ∀ q ∈ [o 0], zA [o 0] q := fun _ h => h
  have hD := zDto (ws := [(o 0, .inr (7, [.int thr, f1, f2, f3, f4, f5, f6, f7, f8, f9, f10]))]) hN hA rfl
  have hx := S.1
  have hb := S.2.1
  have hl : lv_has ls 3 [(0, .ref (o 0)), (1, .int v)] := hl
  refine lv_aload_n hx hb dX7_close_0 rfl (lv_at hl 0 rfl) ?_
  refine lv_iconst (v := 0) hx hb dX7_close_1 (by decide) ?_
  refine z_put S in_lay_X7 tyX7_ok nmX7 hK hP hD hS rfl 0 rfl 0 (by decide) fl_X7_22 rfl rfl rfl rfl (Nat.le_of_ble_eq_true rfl) dX7_close_2 (fun H locs hP hS => ?_)
  have hP : va_P D vwCl [(o 0, .inr (7, [.int 0, f1, f2, f3, f4, f5, f6, f7, f8, f9, f10]))] H := hP
  have hD := zDto (ws := [(o 0, .inr (7, [.int 0, f1, f2, f3, f4, f5, f6, f7, f8, f9, f10]))]) hN hA rfl
  refine lv_iload_n hx hb dX7_close_5 rfl (lv_at hl 1 rfl) ?_
  refine zcrS (As := [.int v]) (rest := []) S (c_X7_isAsker l D ca v) ml_X7_87 zy_X7_isAsker st_X7_isAsker ⟨Nat.le_of_ble_eq_true rfl, Nat.le_of_ble_eq_true rfl⟩ hK hP [] rfl rfl hl.1 rfl (Nat.le_of_ble_eq_true rfl) ⟨Nat.zero_le _, Nat.zero_le _⟩ dX7_close_6 ?_
  refine zz_ne (tgt := 18) hx hb dX7_close_9 (by decide) (fun h => False.elim (by revert h; intro h; rw [hv] at h; exact absurd h (by decide))) (fun _ => ?_)
  refine lv_aload_n hx hb dX7_close_12 rfl (lv_at hl 0 rfl) ?_
  refine lv_iconst (v := 1) hx hb dX7_close_13 (by decide) ?_
  refine zcw (As := [.int 1]) (rest := []) (st1 := [.int 0]) (q0 := 0) (lw := [o 0]) S (c_X7_fails l D ca o f1 f2 f3 f4 f5 f6 f7 f8 f9 f10 0  1 (znd_pick hN [0] rfl rfl)) ml_X7_67 zy_X7_fails im_X7_fails se_X7_fails ⟨Nat.le_of_ble_eq_true rfl, Nat.le_of_ble_eq_true rfl⟩ hK hP hD hS [0] rfl rfl rfl rfl rfl rfl rfl hl.1 rfl rfl (Nat.le_of_ble_eq_true rfl) ⟨Nat.zero_le _, Nat.zero_le _⟩ dX7_close_14 (fun H locs hP hS => ?_)
  have hP : va_P D vwCl [(o 0, .inr (7, [.int 1, f1, f2, f3, f4, f5, f6, f7, f8, f9, f10]))] H := hP
  have hD := zDto (ws := [(o 0, .inr (7, [.int 1, f1, f2, f3, f4, f5, f6, f7, f8, f9, f10]))]) hN hA rfl
  exact zw_i hx hb hr hlk hP hS ⟨by rfl, by rfl⟩ dX7_close_17
set_option maxHeartbeats 4000000 in
set_option maxRecDepth 100000 in
theorem c_X7_close_B (l : Launch) (D : va_G) (ca : Nat → ClassId) (o : Nat → Nat) (f2 f3 f4 f5 f6 f7 f8 f9 f10 : Value) (thr : Int32) (sf : Nat → Int32) (k : Nat) (hk : k < 4) (hs : rSn sf k = -1) (hN : [o 0, o 1].Nodup) : zMw l yX7_close cX7_close 3 (some .int) 2 42 D ca [(o 0, .inr (7, [.int thr, .ref (o 1), f2, f3, f4, f5, f6, f7, f8, f9, f10])), (o 1, .inl (ca 0, 99, .inl sf))] ([(o 0, .inr (7, [.int 2, .ref (o 1), f2, f3, f4, f5, f6, f7, f8, f9, f10])), (o 1, .inl (ca 0, 99, .inl sf))]) [.ref (o 0), .int (nI k)] (some (.int 0)) := by
  refine zMw_of (own := RX7) (by decide) rfl (Nat.le_of_ble_eq_true rfl) ?_
  intro p e s m args below meth c ls S hr hlk hP hK hl hS
  have hP : va_P D vwCl [(o 0, .inr (7, [.int thr, .ref (o 1), f2, f3, f4, f5, f6, f7, f8, f9, f10])), (o 1, .inl (ca 0, 99, .inl sf))] s.heap := hP
  have hS : va_S (zA [o 0, o 1]) s.heap s.heap [] := hS
  have hA : ∀ q ∈ [o 0, o 1], zA [o 0, o 1] q := fun _ h => h
  have hD := zDto (ws := [(o 0, .inr (7, [.int thr, .ref (o 1), f2, f3, f4, f5, f6, f7, f8, f9, f10])), (o 1, .inl (ca 0, 99, .inl sf))]) hN hA rfl
  have hx := S.1
  have hb := S.2.1
  have hl : lv_has ls 3 [(0, .ref (o 0)), (1, .int (nI k))] := hl
  have hin : rIn (nI k) 0 3 = true := rIn_t (a := 0) (b := 3) (by omega) (by omega) (by decide)
  refine lv_aload_n hx hb dX7_close_0 rfl (lv_at hl 0 rfl) ?_
  refine lv_iconst (v := 0) hx hb dX7_close_1 (by decide) ?_
  refine z_put S in_lay_X7 tyX7_ok nmX7 hK hP hD hS rfl 0 rfl 0 (by decide) fl_X7_22 rfl rfl rfl rfl (Nat.le_of_ble_eq_true rfl) dX7_close_2 (fun H locs hP hS => ?_)
  have hP : va_P D vwCl [(o 0, .inr (7, [.int 0, .ref (o 1), f2, f3, f4, f5, f6, f7, f8, f9, f10])), (o 1, .inl (ca 0, 99, .inl sf))] H := hP
  have hD := zDto (ws := [(o 0, .inr (7, [.int 0, .ref (o 1), f2, f3, f4, f5, f6, f7, f8, f9, f10])), (o 1, .inl (ca 0, 99, .inl sf))]) hN hA rfl
  refine lv_iload_n hx hb dX7_close_5 rfl (lv_at hl 1 rfl) ?_
  refine zcrS (As := [.int (nI k)]) (rest := []) S (c_X7_isAsker l D ca (nI k)) ml_X7_87 zy_X7_isAsker st_X7_isAsker ⟨Nat.le_of_ble_eq_true rfl, Nat.le_of_ble_eq_true rfl⟩ hK hP [] rfl rfl hl.1 rfl (Nat.le_of_ble_eq_true rfl) ⟨Nat.zero_le _, Nat.zero_le _⟩ dX7_close_6 ?_
  refine zz_ne (tgt := 18) hx hb dX7_close_9 (by decide) (fun _ => ?_) (fun h => False.elim (by revert h; intro h; rw [hin] at h; exact absurd h (by decide)))
  refine lv_aload_n hx hb dX7_close_18 rfl (lv_at hl 0 rfl) ?_
  refine lv_iload_n hx hb dX7_close_19 rfl (lv_at hl 1 rfl) ?_
  refine zcr (As := [.int (nI k)]) (rest := []) (q0 := 0) S (c_X7_snapshotOf l D ca o (.int 0) f2 f3 f4 f5 f6 f7 f8 f9 f10 sf k (by omega)) ml_X7_81 zy_X7_snapshotOf im_X7_snapshotOf se_X7_snapshotOf ⟨Nat.le_of_ble_eq_true rfl, Nat.le_of_ble_eq_true rfl⟩ hK hP [0, 1] rfl rfl rfl rfl rfl hl.1 rfl (Nat.le_of_ble_eq_true rfl) ⟨Nat.zero_le _, Nat.zero_le _⟩ dX7_close_20 ?_
  refine lv_istore_n (lv' := [(2, .int (rSn sf k)), (0, .ref (o 0)), (1, .int (nI k))]) hx hb dX7_close_23 rfl hl (by decide) rfl (fun ls hl => ?_)
  refine lv_iload_n hx hb dX7_close_24 rfl (lv_at hl 0 rfl) ?_
  refine lv_iconst (v := (-1)) hx hb dX7_close_25 (by decide) ?_
  refine lv_icmp_ne (tgt := 35) hx hb dX7_close_26 (by decide) (fun h => by first | exact absurd h hs | exact absurd hs h) (fun _ => ?_)
  refine lv_aload_n hx hb dX7_close_29 rfl (lv_at hl 1 rfl) ?_
  refine lv_iconst (v := 2) hx hb dX7_close_30 (by decide) ?_
  refine zcw (As := [.int 2]) (rest := []) (st1 := [.int 0]) (q0 := 0) (lw := [o 0]) S (c_X7_fails l D ca o (.ref (o 1)) f2 f3 f4 f5 f6 f7 f8 f9 f10 0  2 (znd_pick hN [0] rfl rfl)) ml_X7_67 zy_X7_fails im_X7_fails se_X7_fails ⟨Nat.le_of_ble_eq_true rfl, Nat.le_of_ble_eq_true rfl⟩ hK hP hD hS [0] rfl rfl rfl rfl rfl rfl rfl hl.1 rfl rfl (Nat.le_of_ble_eq_true rfl) ⟨Nat.zero_le _, Nat.zero_le _⟩ dX7_close_31 (fun H locs hP hS => ?_)
  have hP : va_P D vwCl [(o 0, .inr (7, [.int 2, .ref (o 1), f2, f3, f4, f5, f6, f7, f8, f9, f10])), (o 1, .inl (ca 0, 99, .inl sf))] H := hP
  have hD := zDto (ws := [(o 0, .inr (7, [.int 2, .ref (o 1), f2, f3, f4, f5, f6, f7, f8, f9, f10])), (o 1, .inl (ca 0, 99, .inl sf))]) hN hA rfl
  exact zw_i hx hb hr hlk hP hS ⟨by rfl, by rfl⟩ dX7_close_34
set_option maxHeartbeats 4000000 in
set_option maxRecDepth 100000 in
theorem c_X7_close_C (l : Launch) (D : va_G) (ca : Nat → ClassId) (o : Nat → Nat) (f4 f5 f6 f7 f8 f9 f10 : Value) (thr : Int32) (mm : Nat) (sf : Nat → Int32) (sv : Nat → Int32) (h0 : mm ≤ 6) (k : Nat) (hk : k < 4) (hs : ¬ rSn sf k = -1) (hN : [o 0, o 1, o 2].Nodup) : zMw l yX7_close cX7_close 3 (some .int) 2 42 D ca [(o 0, .inr (7, [.int thr, .ref (o 1), .ref (o 2), .int (nI mm), f4, f5, f6, f7, f8, f9, f10])), (o 1, .inl (ca 0, 99, .inl sf)), (o 2, .inl (ca 0, 594, .inl sv))] ([(o 0, .inr (7, [.int 0, .ref (o 1), .ref (o 2), .int (nI (rSm mm)), f4, f5, f6, f7, f8, f9, f10])), (o 1, .inl (ca 0, 99, .inl (upd sf (91 + 2 * k) 0))), (o 2, .inl (ca 0, 594, .inl (rSv sf sv mm)))]) [.ref (o 0), .int (nI k)] (some (.int (rSn sf k))) := by
  refine zMw_of (own := RX7) (by decide) rfl (Nat.le_of_ble_eq_true rfl) ?_
  intro p e s m args below meth c ls S hr hlk hP hK hl hS
  have hP : va_P D vwCl [(o 0, .inr (7, [.int thr, .ref (o 1), .ref (o 2), .int (nI mm), f4, f5, f6, f7, f8, f9, f10])), (o 1, .inl (ca 0, 99, .inl sf)), (o 2, .inl (ca 0, 594, .inl sv))] s.heap := hP
  have hS : va_S (zA [o 0, o 1, o 2]) s.heap s.heap [] := hS
  have hA : ∀ q ∈ [o 0, o 1, o 2], zA [o 0, o 1, o 2] q := fun _ h => h
  have hD := zDto (ws := [(o 0, .inr (7, [.int thr, .ref (o 1), .ref (o 2), .int (nI mm), f4, f5, f6, f7, f8, f9, f10])), (o 1, .inl (ca 0, 99, .inl sf)), (o 2, .inl (ca 0, 594, .inl sv))]) hN hA rfl
  have hx := S.1
  have hb := S.2.1
  have hl : lv_has ls 3 [(0, .ref (o 0)), (1, .int (nI k))] := hl
  have hin : rIn (nI k) 0 3 = true := rIn_t (a := 0) (b := 3) (by omega) (by omega) (by decide)
  refine lv_aload_n hx hb dX7_close_0 rfl (lv_at hl 0 rfl) ?_
  refine lv_iconst (v := 0) hx hb dX7_close_1 (by decide) ?_
  refine z_put S in_lay_X7 tyX7_ok nmX7 hK hP hD hS rfl 0 rfl 0 (by decide) fl_X7_22 rfl rfl rfl rfl (Nat.le_of_ble_eq_true rfl) dX7_close_2 (fun H locs hP hS => ?_)
  have hP : va_P D vwCl [(o 0, .inr (7, [.int 0, .ref (o 1), .ref (o 2), .int (nI mm), f4, f5, f6, f7, f8, f9, f10])), (o 1, .inl (ca 0, 99, .inl sf)), (o 2, .inl (ca 0, 594, .inl sv))] H := hP
  have hD := zDto (ws := [(o 0, .inr (7, [.int 0, .ref (o 1), .ref (o 2), .int (nI mm), f4, f5, f6, f7, f8, f9, f10])), (o 1, .inl (ca 0, 99, .inl sf)), (o 2, .inl (ca 0, 594, .inl sv))]) hN hA rfl
  refine lv_iload_n hx hb dX7_close_5 rfl (lv_at hl 1 rfl) ?_
  refine zcrS (As := [.int (nI k)]) (rest := []) S (c_X7_isAsker l D ca (nI k)) ml_X7_87 zy_X7_isAsker st_X7_isAsker ⟨Nat.le_of_ble_eq_true rfl, Nat.le_of_ble_eq_true rfl⟩ hK hP [] rfl rfl hl.1 rfl (Nat.le_of_ble_eq_true rfl) ⟨Nat.zero_le _, Nat.zero_le _⟩ dX7_close_6 ?_
  refine zz_ne (tgt := 18) hx hb dX7_close_9 (by decide) (fun _ => ?_) (fun h => False.elim (by revert h; intro h; rw [hin] at h; exact absurd h (by decide)))
  refine lv_aload_n hx hb dX7_close_18 rfl (lv_at hl 0 rfl) ?_
  refine lv_iload_n hx hb dX7_close_19 rfl (lv_at hl 1 rfl) ?_
  refine zcr (As := [.int (nI k)]) (rest := []) (q0 := 0) S (c_X7_snapshotOf l D ca o (.int 0) (.ref (o 2)) (.int (nI mm)) f4 f5 f6 f7 f8 f9 f10 sf k (by omega)) ml_X7_81 zy_X7_snapshotOf im_X7_snapshotOf se_X7_snapshotOf ⟨Nat.le_of_ble_eq_true rfl, Nat.le_of_ble_eq_true rfl⟩ hK hP [0, 1] rfl rfl rfl rfl rfl hl.1 rfl (Nat.le_of_ble_eq_true rfl) ⟨Nat.zero_le _, Nat.zero_le _⟩ dX7_close_20 ?_
  refine lv_istore_n (lv' := [(2, .int (rSn sf k)), (0, .ref (o 0)), (1, .int (nI k))]) hx hb dX7_close_23 rfl hl (by decide) rfl (fun ls hl => ?_)
  refine lv_iload_n hx hb dX7_close_24 rfl (lv_at hl 0 rfl) ?_
  refine lv_iconst (v := (-1)) hx hb dX7_close_25 (by decide) ?_
  refine lv_icmp_ne (tgt := 35) hx hb dX7_close_26 (by decide) (fun _ => ?_) (fun h => by first | exact absurd h hs | exact absurd hs h)
  refine lv_aload_n hx hb dX7_close_35 rfl (lv_at hl 1 rfl) ?_
  refine zcw (As := []) (rest := []) (st1 := []) (q0 := 0) (lw := [o 0, o 1, o 2]) S (c_X7_saves l D ca o (.int 0) f4 f5 f6 f7 f8 f9 f10 mm sf sv (by first | assumption | omega)  (znd_pick hN [0, 1, 2] rfl rfl)) ml_X7_74 zy_X7_saves im_X7_saves se_X7_saves ⟨Nat.le_of_ble_eq_true rfl, Nat.le_of_ble_eq_true rfl⟩ hK hP hD hS [0, 1, 2] rfl rfl rfl rfl rfl rfl rfl hl.1 rfl rfl (Nat.le_of_ble_eq_true rfl) ⟨Nat.zero_le _, Nat.zero_le _⟩ dX7_close_36 (fun H locs hP hS => ?_)
  have hP : va_P D vwCl [(o 0, .inr (7, [.int 0, .ref (o 1), .ref (o 2), .int (nI (rSm mm)), f4, f5, f6, f7, f8, f9, f10])), (o 1, .inl (ca 0, 99, .inl sf)), (o 2, .inl (ca 0, 594, .inl (rSv sf sv mm)))] H := hP
  have hD := zDto (ws := [(o 0, .inr (7, [.int 0, .ref (o 1), .ref (o 2), .int (nI (rSm mm)), f4, f5, f6, f7, f8, f9, f10])), (o 1, .inl (ca 0, 99, .inl sf)), (o 2, .inl (ca 0, 594, .inl (rSv sf sv mm)))]) hN hA rfl
  have hsm : rSm mm ≤ 6 := by unfold rSm; split <;> omega
  refine lv_aload_n hx hb dX7_close_39 rfl (lv_at hl 1 rfl) ?_
  refine z_get S in_lay_X7 hK hP rfl 0 rfl 1 (by decide) fl_X7_7 rfl rfl dX7_close_40 ?_
  refine lv_bipush (v := 91) hx hb dX7_close_43 (by decide) ?_
  refine lv_iconst (v := 2) hx hb dX7_close_45 (by decide) ?_
  refine lv_iload_n hx hb dX7_close_46 rfl (lv_at hl 2 rfl) ?_
  refine zn_mul hx hb (x := 2) (y := k) (z := 2 * k) (by first | rfl | omega) dX7_close_47 ?_
  refine zn_add hx hb (x := 91) (y := 2 * k) (z := 91 + (2 * k)) (by omega) dX7_close_48 ?_
  refine lv_iconst (v := 0) hx hb dX7_close_49 (by decide) ?_
  refine zn_add hx hb (x := 91 + (2 * k)) (y := 0) (z := 91 + (2 * k)) (by omega) dX7_close_50 ?_
  refine lv_iconst (v := 0) hx hb dX7_close_51 (by decide) ?_
  refine z_iast S hK hP hD hS 1 rfl (j := 91 + (2 * k)) (by omega) (by decide) dX7_close_52 (fun H locs hP hS => ?_)
  have hP : va_P D vwCl [(o 0, .inr (7, [.int 0, .ref (o 1), .ref (o 2), .int (nI (rSm mm)), f4, f5, f6, f7, f8, f9, f10])), (o 1, .inl (ca 0, 99, .inl (upd sf (91 + (2 * k)) 0))), (o 2, .inl (ca 0, 594, .inl (rSv sf sv mm)))] H := hP
  have hD := zDto (ws := [(o 0, .inr (7, [.int 0, .ref (o 1), .ref (o 2), .int (nI (rSm mm)), f4, f5, f6, f7, f8, f9, f10])), (o 1, .inl (ca 0, 99, .inl (upd sf (91 + (2 * k)) 0))), (o 2, .inl (ca 0, 594, .inl (rSv sf sv mm)))]) hN hA rfl
  refine lv_iload_n hx hb dX7_close_53 rfl (lv_at hl 0 rfl) ?_
  exact zw_i hx hb hr hlk hP hS ⟨by rfl, by rfl⟩ dX7_close_54
set_option maxHeartbeats 4000000 in
set_option maxRecDepth 100000 in
theorem c_X7_sweep_A (l : Launch) (D : va_G) (ca : Nat → ClassId) (o : Nat → Nat) (f1 f2 f3 f4 f5 f6 f7 f8 f9 f10 : Value) (thr : Int32) (v : Int32) (hv : rIn v 0 5 = false) (hN : [o 0].Nodup) : zMw l yX7_sweep cX7_sweep 2 (some .int) 2 42 D ca [(o 0, .inr (7, [.int thr, f1, f2, f3, f4, f5, f6, f7, f8, f9, f10]))] ([(o 0, .inr (7, [.int 1, f1, f2, f3, f4, f5, f6, f7, f8, f9, f10]))]) [.ref (o 0), .int v] (some (.int 0)) := by
  refine zMw_of (own := RX7) (by decide) rfl (Nat.le_of_ble_eq_true rfl) ?_
  intro p e s m args below meth c ls S hr hlk hP hK hl hS
  have hP : va_P D vwCl [(o 0, .inr (7, [.int thr, f1, f2, f3, f4, f5, f6, f7, f8, f9, f10]))] s.heap := hP
  have hS : va_S (zA [o 0]) s.heap s.heap [] := hS
  have hA : ∀ q ∈ [o 0], zA [o 0] q := fun _ h => h
  have hD := zDto (ws := [(o 0, .inr (7, [.int thr, f1, f2, f3, f4, f5, f6, f7, f8, f9, f10]))]) hN hA rfl
  have hx := S.1
  have hb := S.2.1
  have hl : lv_has ls 2 [(0, .ref (o 0)), (1, .int v)] := hl
  refine lv_aload_n hx hb dX7_sweep_0 rfl (lv_at hl 0 rfl) ?_
  refine lv_iconst (v := 0) hx hb dX7_sweep_1 (by decide) ?_
  refine z_put S in_lay_X7 tyX7_ok nmX7 hK hP hD hS rfl 0 rfl 0 (by decide) fl_X7_22 rfl rfl rfl rfl (Nat.le_of_ble_eq_true rfl) dX7_sweep_2 (fun H locs hP hS => ?_)
  have hP : va_P D vwCl [(o 0, .inr (7, [.int 0, f1, f2, f3, f4, f5, f6, f7, f8, f9, f10]))] H := hP
  have hD := zDto (ws := [(o 0, .inr (7, [.int 0, f1, f2, f3, f4, f5, f6, f7, f8, f9, f10]))]) hN hA rfl
  refine lv_iload_n hx hb dX7_sweep_5 rfl (lv_at hl 1 rfl) ?_
  refine zcrS (As := [.int v]) (rest := []) S (c_X7_isPage l D ca v) ml_X7_99 zy_X7_isPage st_X7_isPage ⟨Nat.le_of_ble_eq_true rfl, Nat.le_of_ble_eq_true rfl⟩ hK hP [] rfl rfl hl.1 rfl (Nat.le_of_ble_eq_true rfl) ⟨Nat.zero_le _, Nat.zero_le _⟩ dX7_sweep_6 ?_
  refine zz_ne (tgt := 18) hx hb dX7_sweep_9 (by decide) (fun h => False.elim (by revert h; intro h; rw [hv] at h; exact absurd h (by decide))) (fun _ => ?_)
  refine lv_aload_n hx hb dX7_sweep_12 rfl (lv_at hl 0 rfl) ?_
  refine lv_iconst (v := 1) hx hb dX7_sweep_13 (by decide) ?_
  refine zcw (As := [.int 1]) (rest := []) (st1 := [.int 0]) (q0 := 0) (lw := [o 0]) S (c_X7_fails l D ca o f1 f2 f3 f4 f5 f6 f7 f8 f9 f10 0  1 (znd_pick hN [0] rfl rfl)) ml_X7_67 zy_X7_fails im_X7_fails se_X7_fails ⟨Nat.le_of_ble_eq_true rfl, Nat.le_of_ble_eq_true rfl⟩ hK hP hD hS [0] rfl rfl rfl rfl rfl rfl rfl hl.1 rfl rfl (Nat.le_of_ble_eq_true rfl) ⟨Nat.zero_le _, Nat.zero_le _⟩ dX7_sweep_14 (fun H locs hP hS => ?_)
  have hP : va_P D vwCl [(o 0, .inr (7, [.int 1, f1, f2, f3, f4, f5, f6, f7, f8, f9, f10]))] H := hP
  have hD := zDto (ws := [(o 0, .inr (7, [.int 1, f1, f2, f3, f4, f5, f6, f7, f8, f9, f10]))]) hN hA rfl
  exact zw_i hx hb hr hlk hP hS ⟨by rfl, by rfl⟩ dX7_sweep_17
set_option maxHeartbeats 4000000 in
set_option maxRecDepth 100000 in
theorem c_X7_sweep_B (l : Launch) (D : va_G) (ca : Nat → ClassId) (o : Nat → Nat) (f4 f5 f6 f7 f8 f9 f10 : Value) (thr : Int32) (mm : Nat) (sf : Nat → Int32) (sv : Nat → Int32) (h0 : mm ≤ 6) (k : Nat) (hk : k < 6) (hN : [o 0, o 1, o 2].Nodup) : zMw l yX7_sweep cX7_sweep 2 (some .int) 5 114 D ca [(o 0, .inr (7, [.int thr, .ref (o 1), .ref (o 2), .int (nI mm), f4, f5, f6, f7, f8, f9, f10])), (o 1, .inl (ca 0, 99, .inl sf)), (o 2, .inl (ca 0, 594, .inl sv))] ([(o 0, .inr (7, [.int 0, .ref (o 1), .ref (o 2), .int (nI (rSm mm)), f4, f5, f6, f7, f8, f9, f10])), (o 1, .inl (ca 0, 99, .inl ((rSw sf k).2))), (o 2, .inl (ca 0, 594, .inl (rSv sf sv mm)))]) [.ref (o 0), .int (nI k)] (some (.int ((rSw sf k).1))) := by
  refine zMw_of (own := RX7) (by decide) rfl (Nat.le_of_ble_eq_true rfl) ?_
  intro p e s m args below meth c ls S hr hlk hP hK hl hS
  have hP : va_P D vwCl [(o 0, .inr (7, [.int thr, .ref (o 1), .ref (o 2), .int (nI mm), f4, f5, f6, f7, f8, f9, f10])), (o 1, .inl (ca 0, 99, .inl sf)), (o 2, .inl (ca 0, 594, .inl sv))] s.heap := hP
  have hS : va_S (zA [o 0, o 1, o 2]) s.heap s.heap [] := hS
  have hA : ∀ q ∈ [o 0, o 1, o 2], zA [o 0, o 1, o 2] q := fun _ h => h
  have hD := zDto (ws := [(o 0, .inr (7, [.int thr, .ref (o 1), .ref (o 2), .int (nI mm), f4, f5, f6, f7, f8, f9, f10])), (o 1, .inl (ca 0, 99, .inl sf)), (o 2, .inl (ca 0, 594, .inl sv))]) hN hA rfl
  have hx := S.1
  have hb := S.2.1
  have hl : lv_has ls 2 [(0, .ref (o 0)), (1, .int (nI k))] := hl
  have hin : rIn (nI k) 0 5 = true := rIn_t (a := 0) (b := 5) (by omega) (by omega) (by decide)
  refine lv_aload_n hx hb dX7_sweep_0 rfl (lv_at hl 0 rfl) ?_
  refine lv_iconst (v := 0) hx hb dX7_sweep_1 (by decide) ?_
  refine z_put S in_lay_X7 tyX7_ok nmX7 hK hP hD hS rfl 0 rfl 0 (by decide) fl_X7_22 rfl rfl rfl rfl (Nat.le_of_ble_eq_true rfl) dX7_sweep_2 (fun H locs hP hS => ?_)
  have hP : va_P D vwCl [(o 0, .inr (7, [.int 0, .ref (o 1), .ref (o 2), .int (nI mm), f4, f5, f6, f7, f8, f9, f10])), (o 1, .inl (ca 0, 99, .inl sf)), (o 2, .inl (ca 0, 594, .inl sv))] H := hP
  have hD := zDto (ws := [(o 0, .inr (7, [.int 0, .ref (o 1), .ref (o 2), .int (nI mm), f4, f5, f6, f7, f8, f9, f10])), (o 1, .inl (ca 0, 99, .inl sf)), (o 2, .inl (ca 0, 594, .inl sv))]) hN hA rfl
  refine lv_iload_n hx hb dX7_sweep_5 rfl (lv_at hl 1 rfl) ?_
  refine zcrS (As := [.int (nI k)]) (rest := []) S (c_X7_isPage l D ca (nI k)) ml_X7_99 zy_X7_isPage st_X7_isPage ⟨Nat.le_of_ble_eq_true rfl, Nat.le_of_ble_eq_true rfl⟩ hK hP [] rfl rfl hl.1 rfl (Nat.le_of_ble_eq_true rfl) ⟨Nat.zero_le _, Nat.zero_le _⟩ dX7_sweep_6 ?_
  refine zz_ne (tgt := 18) hx hb dX7_sweep_9 (by decide) (fun _ => ?_) (fun h => False.elim (by revert h; intro h; rw [hin] at h; exact absurd h (by decide)))
  refine lv_aload_n hx hb dX7_sweep_18 rfl (lv_at hl 0 rfl) ?_
  refine zcw (As := []) (rest := []) (st1 := []) (q0 := 0) (lw := [o 0, o 1, o 2]) S (c_X7_saves l D ca o (.int 0) f4 f5 f6 f7 f8 f9 f10 mm sf sv (by first | assumption | omega)  (znd_pick hN [0, 1, 2] rfl rfl)) ml_X7_74 zy_X7_saves im_X7_saves se_X7_saves ⟨Nat.le_of_ble_eq_true rfl, Nat.le_of_ble_eq_true rfl⟩ hK hP hD hS [0, 1, 2] rfl rfl rfl rfl rfl rfl rfl hl.1 rfl rfl (Nat.le_of_ble_eq_true rfl) ⟨Nat.zero_le _, Nat.zero_le _⟩ dX7_sweep_19 (fun H locs hP hS => ?_)
  have hP : va_P D vwCl [(o 0, .inr (7, [.int 0, .ref (o 1), .ref (o 2), .int (nI (rSm mm)), f4, f5, f6, f7, f8, f9, f10])), (o 1, .inl (ca 0, 99, .inl sf)), (o 2, .inl (ca 0, 594, .inl (rSv sf sv mm)))] H := hP
  have hD := zDto (ws := [(o 0, .inr (7, [.int 0, .ref (o 1), .ref (o 2), .int (nI (rSm mm)), f4, f5, f6, f7, f8, f9, f10])), (o 1, .inl (ca 0, 99, .inl sf)), (o 2, .inl (ca 0, 594, .inl (rSv sf sv mm)))]) hN hA rfl
  have hsm : rSm mm ≤ 6 := by unfold rSm; split <;> omega
  refine lv_aload_n hx hb dX7_sweep_22 rfl (lv_at hl 0 rfl) ?_
  refine lv_iload_n hx hb dX7_sweep_23 rfl (lv_at hl 1 rfl) ?_
  refine zcw (As := [.int (nI k)]) (rest := []) (st1 := [.int ((rSw sf k).1)]) (q0 := 0) (lw := [o 0, o 1]) S (c_X7_sweeps l D ca o (.int 0) (.ref (o 2)) (.int (nI (rSm mm))) f4 f5 f6 f7 f8 f9 f10 sf k (by omega) (znd_pick hN [0, 1] rfl rfl)) ml_X7_102 zy_X7_sweeps im_X7_sweeps se_X7_sweeps ⟨Nat.le_of_ble_eq_true rfl, Nat.le_of_ble_eq_true rfl⟩ hK hP hD hS [0, 1] rfl rfl rfl rfl rfl rfl rfl hl.1 rfl rfl (Nat.le_of_ble_eq_true rfl) ⟨Nat.zero_le _, Nat.zero_le _⟩ dX7_sweep_24 (fun H locs hP hS => ?_)
  have hP : va_P D vwCl [(o 0, .inr (7, [.int 0, .ref (o 1), .ref (o 2), .int (nI (rSm mm)), f4, f5, f6, f7, f8, f9, f10])), (o 1, .inl (ca 0, 99, .inl ((rSw sf k).2))), (o 2, .inl (ca 0, 594, .inl (rSv sf sv mm)))] H := hP
  have hD := zDto (ws := [(o 0, .inr (7, [.int 0, .ref (o 1), .ref (o 2), .int (nI (rSm mm)), f4, f5, f6, f7, f8, f9, f10])), (o 1, .inl (ca 0, 99, .inl ((rSw sf k).2))), (o 2, .inl (ca 0, 594, .inl (rSv sf sv mm)))]) hN hA rfl
  exact zw_i hx hb hr hlk hP hS ⟨by rfl, by rfl⟩ dX7_sweep_27
set_option maxHeartbeats 4000000 in
set_option maxRecDepth 100000 in
theorem c_X7_sweepAll (l : Launch) (D : va_G) (ca : Nat → ClassId) (o : Nat → Nat) (f4 f5 f6 f7 f8 f9 f10 : Value) (thr : Int32) (mm : Nat) (sf : Nat → Int32) (sv : Nat → Int32) (h0 : mm ≤ 6)  (hN : [o 0, o 1, o 2].Nodup) : zMw l yX7_sweepAll cX7_sweepAll 2 (some .int) 5 114 D ca [(o 0, .inr (7, [.int thr, .ref (o 1), .ref (o 2), .int (nI mm), f4, f5, f6, f7, f8, f9, f10])), (o 1, .inl (ca 0, 99, .inl sf)), (o 2, .inl (ca 0, 594, .inl sv))] ([(o 0, .inr (7, [.int 0, .ref (o 1), .ref (o 2), .int (nI (rSm mm)), f4, f5, f6, f7, f8, f9, f10])), (o 1, .inl (ca 0, 99, .inl (rSwA 6 0 sf))), (o 2, .inl (ca 0, 594, .inl (rSv sf sv mm)))]) [.ref (o 0)] (some (.int (rMp (rSwA 6 0 sf)))) := by
  refine zMw_of (own := RX7) (by decide) rfl (Nat.le_of_ble_eq_true rfl) ?_
  intro p e s m args below meth c ls S hr hlk hP hK hl hS
  have hP : va_P D vwCl [(o 0, .inr (7, [.int thr, .ref (o 1), .ref (o 2), .int (nI mm), f4, f5, f6, f7, f8, f9, f10])), (o 1, .inl (ca 0, 99, .inl sf)), (o 2, .inl (ca 0, 594, .inl sv))] s.heap := hP
  have hS : va_S (zA [o 0, o 1, o 2]) s.heap s.heap [] := hS
  have hA : ∀ q ∈ [o 0, o 1, o 2], zA [o 0, o 1, o 2] q := fun _ h => h
  have hD := zDto (ws := [(o 0, .inr (7, [.int thr, .ref (o 1), .ref (o 2), .int (nI mm), f4, f5, f6, f7, f8, f9, f10])), (o 1, .inl (ca 0, 99, .inl sf)), (o 2, .inl (ca 0, 594, .inl sv))]) hN hA rfl
  have hx := S.1
  have hb := S.2.1
  have hl : lv_has ls 2 [(0, .ref (o 0))] := hl
  refine lv_aload_n hx hb dX7_sweepAll_0 rfl (lv_at hl 0 rfl) ?_
  refine lv_iconst (v := 0) hx hb dX7_sweepAll_1 (by decide) ?_
  refine z_put S in_lay_X7 tyX7_ok nmX7 hK hP hD hS rfl 0 rfl 0 (by decide) fl_X7_22 rfl rfl rfl rfl (Nat.le_of_ble_eq_true rfl) dX7_sweepAll_2 (fun H locs hP hS => ?_)
  have hP : va_P D vwCl [(o 0, .inr (7, [.int 0, .ref (o 1), .ref (o 2), .int (nI mm), f4, f5, f6, f7, f8, f9, f10])), (o 1, .inl (ca 0, 99, .inl sf)), (o 2, .inl (ca 0, 594, .inl sv))] H := hP
  have hD := zDto (ws := [(o 0, .inr (7, [.int 0, .ref (o 1), .ref (o 2), .int (nI mm), f4, f5, f6, f7, f8, f9, f10])), (o 1, .inl (ca 0, 99, .inl sf)), (o 2, .inl (ca 0, 594, .inl sv))]) hN hA rfl
  refine lv_aload_n hx hb dX7_sweepAll_5 rfl (lv_at hl 0 rfl) ?_
  refine zcw (As := []) (rest := []) (st1 := []) (q0 := 0) (lw := [o 0, o 1, o 2]) S (c_X7_saves l D ca o (.int 0) f4 f5 f6 f7 f8 f9 f10 mm sf sv (by first | assumption | omega)  (znd_pick hN [0, 1, 2] rfl rfl)) ml_X7_74 zy_X7_saves im_X7_saves se_X7_saves ⟨Nat.le_of_ble_eq_true rfl, Nat.le_of_ble_eq_true rfl⟩ hK hP hD hS [0, 1, 2] rfl rfl rfl rfl rfl rfl rfl hl.1 rfl rfl (Nat.le_of_ble_eq_true rfl) ⟨Nat.zero_le _, Nat.zero_le _⟩ dX7_sweepAll_6 (fun H locs hP hS => ?_)
  have hP : va_P D vwCl [(o 0, .inr (7, [.int 0, .ref (o 1), .ref (o 2), .int (nI (rSm mm)), f4, f5, f6, f7, f8, f9, f10])), (o 1, .inl (ca 0, 99, .inl sf)), (o 2, .inl (ca 0, 594, .inl (rSv sf sv mm)))] H := hP
  have hD := zDto (ws := [(o 0, .inr (7, [.int 0, .ref (o 1), .ref (o 2), .int (nI (rSm mm)), f4, f5, f6, f7, f8, f9, f10])), (o 1, .inl (ca 0, 99, .inl sf)), (o 2, .inl (ca 0, 594, .inl (rSv sf sv mm)))]) hN hA rfl
  have hsm : rSm mm ≤ 6 := by unfold rSm; split <;> omega
  refine lv_iconst (v := 0) hx hb dX7_sweepAll_9 (by decide) ?_
  refine lv_istore_n (lv' := [(1, .int 0), (0, .ref (o 0))]) hx hb dX7_sweepAll_10 rfl hl (by decide) rfl (fun ls hl => ?_)
  have loop_0 : ∀ (f : Nat) (k : Nat) (uf : Nat → Int32) (H : Heap) (locs : List Loc) (ls : Array Slot), k + f = 6 → rSwA 6 0 sf = rSwA f k uf → lv_has ls 2 [(0, .ref (o 0)), (1, .int (nI k))] → va_P D vwCl [(o 0, .inr (7, [.int 0, .ref (o 1), .ref (o 2), .int (nI (rSm mm)), f4, f5, f6, f7, f8, f9, f10])), (o 1, .inl (ca 0, 99, .inl uf)), (o 2, .inl (ca 0, 594, .inl (rSv sf sv mm)))] H → va_S (zA [o 0, o 1, o 2]) s.heap H locs → W p l e { frames := 5, cells := 0, slots := 0, locals := 114 } s m args below meth c H locs 0 0 (MQ below (zQw D [o 0, o 1, o 2] ([(o 0, .inr (7, [.int 0, .ref (o 1), .ref (o 2), .int (nI (rSm mm)), f4, f5, f6, f7, f8, f9, f10])), (o 1, .inl (ca 0, 99, .inl (rSwA 6 0 sf))), (o 2, .inl (ca 0, 594, .inl (rSv sf sv mm)))]) (some (.int (rMp (rSwA 6 0 sf))))) args s 0 0 (zA [o 0, o 1, o 2])) (F0 m 11 ls []) := by
    intro f
    induction f with
    | zero =>
      intro k uf H locs ls j1 j2 hl hP hS
      have hD := zDto (ws := [(o 0, .inr (7, [.int 0, .ref (o 1), .ref (o 2), .int (nI (rSm mm)), f4, f5, f6, f7, f8, f9, f10])), (o 1, .inl (ca 0, 99, .inl uf)), (o 2, .inl (ca 0, 594, .inl (rSv sf sv mm)))]) hN hA rfl
      refine lv_iload_n hx hb dX7_sweepAll_11 rfl (lv_at hl 1 rfl) ?_
      refine lv_bipush (v := 6) hx hb dX7_sweepAll_12 (by decide) ?_
      refine zn_ge hx hb (x := k) (y := 6) (by omega) (by omega) (tgt := 29) dX7_sweepAll_14 (by decide) (fun c_14_2 => ?_) (fun h => False.elim (by omega))
      refine lv_aload_n hx hb dX7_sweepAll_29 rfl (lv_at hl 0 rfl) ?_
      refine zcr (As := []) (rest := []) (q0 := 0) S (c_X7_markedPages l D ca o (.int 0) (.ref (o 2)) (.int (nI (rSm mm))) f4 f5 f6 f7 f8 f9 f10 uf ) ml_X7_108 zy_X7_markedPages im_X7_markedPages se_X7_markedPages ⟨Nat.le_of_ble_eq_true rfl, Nat.le_of_ble_eq_true rfl⟩ hK hP [0, 1] rfl rfl rfl rfl rfl hl.1 rfl (Nat.le_of_ble_eq_true rfl) ⟨Nat.zero_le _, Nat.zero_le _⟩ dX7_sweepAll_30 ?_
      exact zw_i hx hb hr hlk hP hS ⟨by rw [j2]; rfl, by rw [j2]; rfl⟩ dX7_sweepAll_33
    | succ f ih =>
      intro k uf H locs ls j1 j2 hl hP hS
      have hD := zDto (ws := [(o 0, .inr (7, [.int 0, .ref (o 1), .ref (o 2), .int (nI (rSm mm)), f4, f5, f6, f7, f8, f9, f10])), (o 1, .inl (ca 0, 99, .inl uf)), (o 2, .inl (ca 0, 594, .inl (rSv sf sv mm)))]) hN hA rfl
      refine lv_iload_n hx hb dX7_sweepAll_11 rfl (lv_at hl 1 rfl) ?_
      refine lv_bipush (v := 6) hx hb dX7_sweepAll_12 (by decide) ?_
      refine zn_ge hx hb (x := k) (y := 6) (by omega) (by omega) (tgt := 29) dX7_sweepAll_14 (by decide) (fun h => False.elim (by omega)) (fun c_14_3 => ?_)
      refine lv_aload_n hx hb dX7_sweepAll_17 rfl (lv_at hl 0 rfl) ?_
      refine lv_iload_n hx hb dX7_sweepAll_18 rfl (lv_at hl 1 rfl) ?_
      refine zcw (As := [.int (nI k)]) (rest := []) (st1 := [.int ((rSw uf k).1)]) (q0 := 0) (lw := [o 0, o 1]) S (c_X7_sweeps l D ca o (.int 0) (.ref (o 2)) (.int (nI (rSm mm))) f4 f5 f6 f7 f8 f9 f10 uf k (by omega) (znd_pick hN [0, 1] rfl rfl)) ml_X7_102 zy_X7_sweeps im_X7_sweeps se_X7_sweeps ⟨Nat.le_of_ble_eq_true rfl, Nat.le_of_ble_eq_true rfl⟩ hK hP hD hS [0, 1] rfl rfl rfl rfl rfl rfl rfl hl.1 rfl rfl (Nat.le_of_ble_eq_true rfl) ⟨Nat.zero_le _, Nat.zero_le _⟩ dX7_sweepAll_19 (fun H locs hP hS => ?_)
      have hP : va_P D vwCl [(o 0, .inr (7, [.int 0, .ref (o 1), .ref (o 2), .int (nI (rSm mm)), f4, f5, f6, f7, f8, f9, f10])), (o 1, .inl (ca 0, 99, .inl ((rSw uf k).2))), (o 2, .inl (ca 0, 594, .inl (rSv sf sv mm)))] H := hP
      have hD := zDto (ws := [(o 0, .inr (7, [.int 0, .ref (o 1), .ref (o 2), .int (nI (rSm mm)), f4, f5, f6, f7, f8, f9, f10])), (o 1, .inl (ca 0, 99, .inl ((rSw uf k).2))), (o 2, .inl (ca 0, 594, .inl (rSv sf sv mm)))]) hN hA rfl
      refine lv_pop hx hb dX7_sweepAll_22 rfl ?_
      refine lv_iinc (v := nI (k + 1)) (lv' := [(1, .int (nI (k + 1))), (0, .ref (o 0))]) hx hb dX7_sweepAll_23 hl (k := 1) rfl (zinc k 1) (by decide) rfl (fun ls hl => ?_)
      refine lv_goto (tgt := 11) hx hb dX7_sweepAll_26 (by decide) ?_
      exact ih (k + 1) ((rSw uf k).2) _ _ ls (by omega) (by rw [j2]; rfl) (lv_sub hl [1, 0] rfl) hP hS
  exact loop_0 6 0 sf _ _ ls (by omega) (by rfl) (lv_sub hl [1, 0] rfl) hP hS
set_option maxHeartbeats 4000000 in
set_option maxRecDepth 100000 in
theorem c_X7_ask_A (l : Launch) (D : va_G) (ca : Nat → ClassId) (o : Nat → Nat) (f1 f2 f3 f4 f5 f6 f7 f8 f9 f10 : Value) (thr : Int32) (v u w : Int32) (hv : rIn v 0 3 = false) (hN : [o 0].Nodup) : zMw l yX7_ask cX7_ask 5 (some .int) 2 42 D ca [(o 0, .inr (7, [.int thr, f1, f2, f3, f4, f5, f6, f7, f8, f9, f10]))] ([(o 0, .inr (7, [.int 1, f1, f2, f3, f4, f5, f6, f7, f8, f9, f10]))]) [.ref (o 0), .int v, .int u, .int w] (some (.int 0)) := by
  refine zMw_of (own := RX7) (by decide) rfl (Nat.le_of_ble_eq_true rfl) ?_
  intro p e s m args below meth c ls S hr hlk hP hK hl hS
  have hP : va_P D vwCl [(o 0, .inr (7, [.int thr, f1, f2, f3, f4, f5, f6, f7, f8, f9, f10]))] s.heap := hP
  have hS : va_S (zA [o 0]) s.heap s.heap [] := hS
  have hA : ∀ q ∈ [o 0], zA [o 0] q := fun _ h => h
  have hD := zDto (ws := [(o 0, .inr (7, [.int thr, f1, f2, f3, f4, f5, f6, f7, f8, f9, f10]))]) hN hA rfl
  have hx := S.1
  have hb := S.2.1
  have hl : lv_has ls 5 [(0, .ref (o 0)), (1, .int v), (2, .int u), (3, .int w)] := hl
  refine lv_aload_n hx hb dX7_ask_0 rfl (lv_at hl 0 rfl) ?_
  refine lv_iconst (v := 0) hx hb dX7_ask_1 (by decide) ?_
  refine z_put S in_lay_X7 tyX7_ok nmX7 hK hP hD hS rfl 0 rfl 0 (by decide) fl_X7_22 rfl rfl rfl rfl (Nat.le_of_ble_eq_true rfl) dX7_ask_2 (fun H locs hP hS => ?_)
  have hP : va_P D vwCl [(o 0, .inr (7, [.int 0, f1, f2, f3, f4, f5, f6, f7, f8, f9, f10]))] H := hP
  have hD := zDto (ws := [(o 0, .inr (7, [.int 0, f1, f2, f3, f4, f5, f6, f7, f8, f9, f10]))]) hN hA rfl
  refine lv_iload_n hx hb dX7_ask_5 rfl (lv_at hl 1 rfl) ?_
  refine zcrS (As := [.int v]) (rest := []) S (c_X7_isAsker l D ca v) ml_X7_87 zy_X7_isAsker st_X7_isAsker ⟨Nat.le_of_ble_eq_true rfl, Nat.le_of_ble_eq_true rfl⟩ hK hP [] rfl rfl hl.1 rfl (Nat.le_of_ble_eq_true rfl) ⟨Nat.zero_le _, Nat.zero_le _⟩ dX7_ask_6 ?_
  refine zz_ne (tgt := 18) hx hb dX7_ask_9 (by decide) (fun h => False.elim (by revert h; intro h; rw [hv] at h; exact absurd h (by decide))) (fun _ => ?_)
  refine lv_aload_n hx hb dX7_ask_12 rfl (lv_at hl 0 rfl) ?_
  refine lv_iconst (v := 1) hx hb dX7_ask_13 (by decide) ?_
  refine zcw (As := [.int 1]) (rest := []) (st1 := [.int 0]) (q0 := 0) (lw := [o 0]) S (c_X7_fails l D ca o f1 f2 f3 f4 f5 f6 f7 f8 f9 f10 0  1 (znd_pick hN [0] rfl rfl)) ml_X7_67 zy_X7_fails im_X7_fails se_X7_fails ⟨Nat.le_of_ble_eq_true rfl, Nat.le_of_ble_eq_true rfl⟩ hK hP hD hS [0] rfl rfl rfl rfl rfl rfl rfl hl.1 rfl rfl (Nat.le_of_ble_eq_true rfl) ⟨Nat.zero_le _, Nat.zero_le _⟩ dX7_ask_14 (fun H locs hP hS => ?_)
  have hP : va_P D vwCl [(o 0, .inr (7, [.int 1, f1, f2, f3, f4, f5, f6, f7, f8, f9, f10]))] H := hP
  have hD := zDto (ws := [(o 0, .inr (7, [.int 1, f1, f2, f3, f4, f5, f6, f7, f8, f9, f10]))]) hN hA rfl
  exact zw_i hx hb hr hlk hP hS ⟨by rfl, by rfl⟩ dX7_ask_17
set_option maxHeartbeats 4000000 in
set_option maxRecDepth 100000 in
theorem c_X7_ask_B1 (l : Launch) (D : va_G) (ca : Nat → ClassId) (o : Nat → Nat) (f1 f2 f3 f4 f5 f6 f7 f8 f9 f10 : Value) (thr : Int32) (k : Nat) (hk : k < 4) (u w : Int32) (hu : rIn u 0 9 = false) (hN : [o 0].Nodup) : zMw l yX7_ask cX7_ask 5 (some .int) 2 42 D ca [(o 0, .inr (7, [.int thr, f1, f2, f3, f4, f5, f6, f7, f8, f9, f10]))] ([(o 0, .inr (7, [.int 2, f1, f2, f3, f4, f5, f6, f7, f8, f9, f10]))]) [.ref (o 0), .int (nI k), .int u, .int w] (some (.int 0)) := by
  refine zMw_of (own := RX7) (by decide) rfl (Nat.le_of_ble_eq_true rfl) ?_
  intro p e s m args below meth c ls S hr hlk hP hK hl hS
  have hP : va_P D vwCl [(o 0, .inr (7, [.int thr, f1, f2, f3, f4, f5, f6, f7, f8, f9, f10]))] s.heap := hP
  have hS : va_S (zA [o 0]) s.heap s.heap [] := hS
  have hA : ∀ q ∈ [o 0], zA [o 0] q := fun _ h => h
  have hD := zDto (ws := [(o 0, .inr (7, [.int thr, f1, f2, f3, f4, f5, f6, f7, f8, f9, f10]))]) hN hA rfl
  have hx := S.1
  have hb := S.2.1
  have hl : lv_has ls 5 [(0, .ref (o 0)), (1, .int (nI k)), (2, .int u), (3, .int w)] := hl
  have hin : rIn (nI k) 0 3 = true := rIn_t (a := 0) (b := 3) (by omega) (by omega) (by decide)
  refine lv_aload_n hx hb dX7_ask_0 rfl (lv_at hl 0 rfl) ?_
  refine lv_iconst (v := 0) hx hb dX7_ask_1 (by decide) ?_
  refine z_put S in_lay_X7 tyX7_ok nmX7 hK hP hD hS rfl 0 rfl 0 (by decide) fl_X7_22 rfl rfl rfl rfl (Nat.le_of_ble_eq_true rfl) dX7_ask_2 (fun H locs hP hS => ?_)
  have hP : va_P D vwCl [(o 0, .inr (7, [.int 0, f1, f2, f3, f4, f5, f6, f7, f8, f9, f10]))] H := hP
  have hD := zDto (ws := [(o 0, .inr (7, [.int 0, f1, f2, f3, f4, f5, f6, f7, f8, f9, f10]))]) hN hA rfl
  refine lv_iload_n hx hb dX7_ask_5 rfl (lv_at hl 1 rfl) ?_
  refine zcrS (As := [.int (nI k)]) (rest := []) S (c_X7_isAsker l D ca (nI k)) ml_X7_87 zy_X7_isAsker st_X7_isAsker ⟨Nat.le_of_ble_eq_true rfl, Nat.le_of_ble_eq_true rfl⟩ hK hP [] rfl rfl hl.1 rfl (Nat.le_of_ble_eq_true rfl) ⟨Nat.zero_le _, Nat.zero_le _⟩ dX7_ask_6 ?_
  refine zz_ne (tgt := 18) hx hb dX7_ask_9 (by decide) (fun _ => ?_) (fun h => False.elim (by revert h; intro h; rw [hin] at h; exact absurd h (by decide)))
  refine lv_iload_n hx hb dX7_ask_18 rfl (lv_at hl 2 rfl) ?_
  refine lv_iconst (v := 0) hx hb dX7_ask_19 (by decide) ?_
  refine lv_bipush (v := 9) hx hb dX7_ask_20 (by decide) ?_
  refine zcrS (As := [.int u, .int 0, .int 9]) (rest := []) S (c_X7_in l D ca u 0 9) ml_X7_26 zy_X7_in st_X7_in ⟨Nat.le_of_ble_eq_true rfl, Nat.le_of_ble_eq_true rfl⟩ hK hP [] rfl rfl hl.1 rfl (Nat.le_of_ble_eq_true rfl) ⟨Nat.zero_le _, Nat.zero_le _⟩ dX7_ask_22 ?_
  refine zz_eq (tgt := 37) hx hb dX7_ask_25 (by decide) (fun _ => ?_) (fun h => False.elim (by revert h; intro h; rw [hu] at h; exact absurd h (by decide)))
  refine lv_aload_n hx hb dX7_ask_37 rfl (lv_at hl 0 rfl) ?_
  refine lv_iconst (v := 2) hx hb dX7_ask_38 (by decide) ?_
  refine zcw (As := [.int 2]) (rest := []) (st1 := [.int 0]) (q0 := 0) (lw := [o 0]) S (c_X7_fails l D ca o f1 f2 f3 f4 f5 f6 f7 f8 f9 f10 0  2 (znd_pick hN [0] rfl rfl)) ml_X7_67 zy_X7_fails im_X7_fails se_X7_fails ⟨Nat.le_of_ble_eq_true rfl, Nat.le_of_ble_eq_true rfl⟩ hK hP hD hS [0] rfl rfl rfl rfl rfl rfl rfl hl.1 rfl rfl (Nat.le_of_ble_eq_true rfl) ⟨Nat.zero_le _, Nat.zero_le _⟩ dX7_ask_39 (fun H locs hP hS => ?_)
  have hP : va_P D vwCl [(o 0, .inr (7, [.int 2, f1, f2, f3, f4, f5, f6, f7, f8, f9, f10]))] H := hP
  have hD := zDto (ws := [(o 0, .inr (7, [.int 2, f1, f2, f3, f4, f5, f6, f7, f8, f9, f10]))]) hN hA rfl
  exact zw_i hx hb hr hlk hP hS ⟨by rfl, by rfl⟩ dX7_ask_42
set_option maxHeartbeats 4000000 in
set_option maxRecDepth 100000 in
theorem c_X7_ask_B2 (l : Launch) (D : va_G) (ca : Nat → ClassId) (o : Nat → Nat) (f1 f2 f3 f4 f5 f6 f7 f8 f9 f10 : Value) (thr : Int32) (k : Nat) (hk : k < 4) (u w : Int32) (hu : rIn u 0 9 = true) (hw : rIn w 0 2 = false) (hN : [o 0].Nodup) : zMw l yX7_ask cX7_ask 5 (some .int) 2 42 D ca [(o 0, .inr (7, [.int thr, f1, f2, f3, f4, f5, f6, f7, f8, f9, f10]))] ([(o 0, .inr (7, [.int 2, f1, f2, f3, f4, f5, f6, f7, f8, f9, f10]))]) [.ref (o 0), .int (nI k), .int u, .int w] (some (.int 0)) := by
  refine zMw_of (own := RX7) (by decide) rfl (Nat.le_of_ble_eq_true rfl) ?_
  intro p e s m args below meth c ls S hr hlk hP hK hl hS
  have hP : va_P D vwCl [(o 0, .inr (7, [.int thr, f1, f2, f3, f4, f5, f6, f7, f8, f9, f10]))] s.heap := hP
  have hS : va_S (zA [o 0]) s.heap s.heap [] := hS
  have hA : ∀ q ∈ [o 0], zA [o 0] q := fun _ h => h
  have hD := zDto (ws := [(o 0, .inr (7, [.int thr, f1, f2, f3, f4, f5, f6, f7, f8, f9, f10]))]) hN hA rfl
  have hx := S.1
  have hb := S.2.1
  have hl : lv_has ls 5 [(0, .ref (o 0)), (1, .int (nI k)), (2, .int u), (3, .int w)] := hl
  have hin : rIn (nI k) 0 3 = true := rIn_t (a := 0) (b := 3) (by omega) (by omega) (by decide)
  refine lv_aload_n hx hb dX7_ask_0 rfl (lv_at hl 0 rfl) ?_
  refine lv_iconst (v := 0) hx hb dX7_ask_1 (by decide) ?_
  refine z_put S in_lay_X7 tyX7_ok nmX7 hK hP hD hS rfl 0 rfl 0 (by decide) fl_X7_22 rfl rfl rfl rfl (Nat.le_of_ble_eq_true rfl) dX7_ask_2 (fun H locs hP hS => ?_)
  have hP : va_P D vwCl [(o 0, .inr (7, [.int 0, f1, f2, f3, f4, f5, f6, f7, f8, f9, f10]))] H := hP
  have hD := zDto (ws := [(o 0, .inr (7, [.int 0, f1, f2, f3, f4, f5, f6, f7, f8, f9, f10]))]) hN hA rfl
  refine lv_iload_n hx hb dX7_ask_5 rfl (lv_at hl 1 rfl) ?_
  refine zcrS (As := [.int (nI k)]) (rest := []) S (c_X7_isAsker l D ca (nI k)) ml_X7_87 zy_X7_isAsker st_X7_isAsker ⟨Nat.le_of_ble_eq_true rfl, Nat.le_of_ble_eq_true rfl⟩ hK hP [] rfl rfl hl.1 rfl (Nat.le_of_ble_eq_true rfl) ⟨Nat.zero_le _, Nat.zero_le _⟩ dX7_ask_6 ?_
  refine zz_ne (tgt := 18) hx hb dX7_ask_9 (by decide) (fun _ => ?_) (fun h => False.elim (by revert h; intro h; rw [hin] at h; exact absurd h (by decide)))
  refine lv_iload_n hx hb dX7_ask_18 rfl (lv_at hl 2 rfl) ?_
  refine lv_iconst (v := 0) hx hb dX7_ask_19 (by decide) ?_
  refine lv_bipush (v := 9) hx hb dX7_ask_20 (by decide) ?_
  refine zcrS (As := [.int u, .int 0, .int 9]) (rest := []) S (c_X7_in l D ca u 0 9) ml_X7_26 zy_X7_in st_X7_in ⟨Nat.le_of_ble_eq_true rfl, Nat.le_of_ble_eq_true rfl⟩ hK hP [] rfl rfl hl.1 rfl (Nat.le_of_ble_eq_true rfl) ⟨Nat.zero_le _, Nat.zero_le _⟩ dX7_ask_22 ?_
  refine zz_eq (tgt := 37) hx hb dX7_ask_25 (by decide) (fun h => False.elim (by revert h; intro h; rw [hu] at h; exact absurd h (by decide))) (fun _ => ?_)
  refine lv_iload_n hx hb dX7_ask_28 rfl (lv_at hl 3 rfl) ?_
  refine lv_iconst (v := 0) hx hb dX7_ask_29 (by decide) ?_
  refine lv_iconst (v := 2) hx hb dX7_ask_30 (by decide) ?_
  refine zcrS (As := [.int w, .int 0, .int 2]) (rest := []) S (c_X7_in l D ca w 0 2) ml_X7_26 zy_X7_in st_X7_in ⟨Nat.le_of_ble_eq_true rfl, Nat.le_of_ble_eq_true rfl⟩ hK hP [] rfl rfl hl.1 rfl (Nat.le_of_ble_eq_true rfl) ⟨Nat.zero_le _, Nat.zero_le _⟩ dX7_ask_31 ?_
  refine zz_ne (tgt := 43) hx hb dX7_ask_34 (by decide) (fun h => False.elim (by revert h; intro h; rw [hw] at h; exact absurd h (by decide))) (fun _ => ?_)
  refine lv_aload_n hx hb dX7_ask_37 rfl (lv_at hl 0 rfl) ?_
  refine lv_iconst (v := 2) hx hb dX7_ask_38 (by decide) ?_
  refine zcw (As := [.int 2]) (rest := []) (st1 := [.int 0]) (q0 := 0) (lw := [o 0]) S (c_X7_fails l D ca o f1 f2 f3 f4 f5 f6 f7 f8 f9 f10 0  2 (znd_pick hN [0] rfl rfl)) ml_X7_67 zy_X7_fails im_X7_fails se_X7_fails ⟨Nat.le_of_ble_eq_true rfl, Nat.le_of_ble_eq_true rfl⟩ hK hP hD hS [0] rfl rfl rfl rfl rfl rfl rfl hl.1 rfl rfl (Nat.le_of_ble_eq_true rfl) ⟨Nat.zero_le _, Nat.zero_le _⟩ dX7_ask_39 (fun H locs hP hS => ?_)
  have hP : va_P D vwCl [(o 0, .inr (7, [.int 2, f1, f2, f3, f4, f5, f6, f7, f8, f9, f10]))] H := hP
  have hD := zDto (ws := [(o 0, .inr (7, [.int 2, f1, f2, f3, f4, f5, f6, f7, f8, f9, f10]))]) hN hA rfl
  exact zw_i hx hb hr hlk hP hS ⟨by rfl, by rfl⟩ dX7_ask_42
set_option maxHeartbeats 4000000 in
set_option maxRecDepth 100000 in
theorem c_X7_ask_C (l : Launch) (D : va_G) (ca : Nat → ClassId) (o : Nat → Nat) (f2 f3 f4 f5 f6 f7 f8 f9 f10 : Value) (thr : Int32) (sf : Nat → Int32) (k : Nat) (hk : k < 4) (u : Int32) (w : Nat) (hu : rIn u 0 9 = true) (hw : w < 3) (hs : rSn sf k = -1) (hN : [o 0, o 1].Nodup) : zMw l yX7_ask cX7_ask 5 (some .int) 2 42 D ca [(o 0, .inr (7, [.int thr, .ref (o 1), f2, f3, f4, f5, f6, f7, f8, f9, f10])), (o 1, .inl (ca 0, 99, .inl sf))] ([(o 0, .inr (7, [.int 3, .ref (o 1), f2, f3, f4, f5, f6, f7, f8, f9, f10])), (o 1, .inl (ca 0, 99, .inl sf))]) [.ref (o 0), .int (nI k), .int u, .int (nI w)] (some (.int 0)) := by
  refine zMw_of (own := RX7) (by decide) rfl (Nat.le_of_ble_eq_true rfl) ?_
  intro p e s m args below meth c ls S hr hlk hP hK hl hS
  have hP : va_P D vwCl [(o 0, .inr (7, [.int thr, .ref (o 1), f2, f3, f4, f5, f6, f7, f8, f9, f10])), (o 1, .inl (ca 0, 99, .inl sf))] s.heap := hP
  have hS : va_S (zA [o 0, o 1]) s.heap s.heap [] := hS
  have hA : ∀ q ∈ [o 0, o 1], zA [o 0, o 1] q := fun _ h => h
  have hD := zDto (ws := [(o 0, .inr (7, [.int thr, .ref (o 1), f2, f3, f4, f5, f6, f7, f8, f9, f10])), (o 1, .inl (ca 0, 99, .inl sf))]) hN hA rfl
  have hx := S.1
  have hb := S.2.1
  have hl : lv_has ls 5 [(0, .ref (o 0)), (1, .int (nI k)), (2, .int u), (3, .int (nI w))] := hl
  have hin : rIn (nI k) 0 3 = true := rIn_t (a := 0) (b := 3) (by omega) (by omega) (by decide)
  have hin2 : rIn (nI w) 0 2 = true := rIn_t (a := 0) (b := 2) (by omega) (by omega) (by decide)
  refine lv_aload_n hx hb dX7_ask_0 rfl (lv_at hl 0 rfl) ?_
  refine lv_iconst (v := 0) hx hb dX7_ask_1 (by decide) ?_
  refine z_put S in_lay_X7 tyX7_ok nmX7 hK hP hD hS rfl 0 rfl 0 (by decide) fl_X7_22 rfl rfl rfl rfl (Nat.le_of_ble_eq_true rfl) dX7_ask_2 (fun H locs hP hS => ?_)
  have hP : va_P D vwCl [(o 0, .inr (7, [.int 0, .ref (o 1), f2, f3, f4, f5, f6, f7, f8, f9, f10])), (o 1, .inl (ca 0, 99, .inl sf))] H := hP
  have hD := zDto (ws := [(o 0, .inr (7, [.int 0, .ref (o 1), f2, f3, f4, f5, f6, f7, f8, f9, f10])), (o 1, .inl (ca 0, 99, .inl sf))]) hN hA rfl
  refine lv_iload_n hx hb dX7_ask_5 rfl (lv_at hl 1 rfl) ?_
  refine zcrS (As := [.int (nI k)]) (rest := []) S (c_X7_isAsker l D ca (nI k)) ml_X7_87 zy_X7_isAsker st_X7_isAsker ⟨Nat.le_of_ble_eq_true rfl, Nat.le_of_ble_eq_true rfl⟩ hK hP [] rfl rfl hl.1 rfl (Nat.le_of_ble_eq_true rfl) ⟨Nat.zero_le _, Nat.zero_le _⟩ dX7_ask_6 ?_
  refine zz_ne (tgt := 18) hx hb dX7_ask_9 (by decide) (fun _ => ?_) (fun h => False.elim (by revert h; intro h; rw [hin] at h; exact absurd h (by decide)))
  refine lv_iload_n hx hb dX7_ask_18 rfl (lv_at hl 2 rfl) ?_
  refine lv_iconst (v := 0) hx hb dX7_ask_19 (by decide) ?_
  refine lv_bipush (v := 9) hx hb dX7_ask_20 (by decide) ?_
  refine zcrS (As := [.int u, .int 0, .int 9]) (rest := []) S (c_X7_in l D ca u 0 9) ml_X7_26 zy_X7_in st_X7_in ⟨Nat.le_of_ble_eq_true rfl, Nat.le_of_ble_eq_true rfl⟩ hK hP [] rfl rfl hl.1 rfl (Nat.le_of_ble_eq_true rfl) ⟨Nat.zero_le _, Nat.zero_le _⟩ dX7_ask_22 ?_
  refine zz_eq (tgt := 37) hx hb dX7_ask_25 (by decide) (fun h => False.elim (by revert h; intro h; rw [hu] at h; exact absurd h (by decide))) (fun _ => ?_)
  refine lv_iload_n hx hb dX7_ask_28 rfl (lv_at hl 3 rfl) ?_
  refine lv_iconst (v := 0) hx hb dX7_ask_29 (by decide) ?_
  refine lv_iconst (v := 2) hx hb dX7_ask_30 (by decide) ?_
  refine zcrS (As := [.int (nI w), .int 0, .int 2]) (rest := []) S (c_X7_in l D ca (nI w) 0 2) ml_X7_26 zy_X7_in st_X7_in ⟨Nat.le_of_ble_eq_true rfl, Nat.le_of_ble_eq_true rfl⟩ hK hP [] rfl rfl hl.1 rfl (Nat.le_of_ble_eq_true rfl) ⟨Nat.zero_le _, Nat.zero_le _⟩ dX7_ask_31 ?_
  refine zz_ne (tgt := 43) hx hb dX7_ask_34 (by decide) (fun _ => ?_) (fun h => False.elim (by revert h; intro h; rw [hin2] at h; exact absurd h (by decide)))
  refine lv_aload_n hx hb dX7_ask_43 rfl (lv_at hl 0 rfl) ?_
  refine lv_iload_n hx hb dX7_ask_44 rfl (lv_at hl 1 rfl) ?_
  refine zcr (As := [.int (nI k)]) (rest := []) (q0 := 0) S (c_X7_snapshotOf l D ca o (.int 0) f2 f3 f4 f5 f6 f7 f8 f9 f10 sf k (by omega)) ml_X7_81 zy_X7_snapshotOf im_X7_snapshotOf se_X7_snapshotOf ⟨Nat.le_of_ble_eq_true rfl, Nat.le_of_ble_eq_true rfl⟩ hK hP [0, 1] rfl rfl rfl rfl rfl hl.1 rfl (Nat.le_of_ble_eq_true rfl) ⟨Nat.zero_le _, Nat.zero_le _⟩ dX7_ask_45 ?_
  refine lv_istore (lv' := [(4, .int (rSn sf k)), (0, .ref (o 0)), (1, .int (nI k)), (2, .int u), (3, .int (nI w))]) hx hb dX7_ask_48 hl (by decide) rfl (fun ls hl => ?_)
  refine lv_iload hx hb dX7_ask_50 (lv_at hl 0 rfl) ?_
  refine lv_iconst (v := (-1)) hx hb dX7_ask_52 (by decide) ?_
  refine lv_icmp_ne (tgt := 62) hx hb dX7_ask_53 (by decide) (fun h => by first | exact absurd h hs | exact absurd hs h) (fun _ => ?_)
  refine lv_aload_n hx hb dX7_ask_56 rfl (lv_at hl 1 rfl) ?_
  refine lv_iconst (v := 3) hx hb dX7_ask_57 (by decide) ?_
  refine zcw (As := [.int 3]) (rest := []) (st1 := [.int 0]) (q0 := 0) (lw := [o 0]) S (c_X7_fails l D ca o (.ref (o 1)) f2 f3 f4 f5 f6 f7 f8 f9 f10 0  3 (znd_pick hN [0] rfl rfl)) ml_X7_67 zy_X7_fails im_X7_fails se_X7_fails ⟨Nat.le_of_ble_eq_true rfl, Nat.le_of_ble_eq_true rfl⟩ hK hP hD hS [0] rfl rfl rfl rfl rfl rfl rfl hl.1 rfl rfl (Nat.le_of_ble_eq_true rfl) ⟨Nat.zero_le _, Nat.zero_le _⟩ dX7_ask_58 (fun H locs hP hS => ?_)
  have hP : va_P D vwCl [(o 0, .inr (7, [.int 3, .ref (o 1), f2, f3, f4, f5, f6, f7, f8, f9, f10])), (o 1, .inl (ca 0, 99, .inl sf))] H := hP
  have hD := zDto (ws := [(o 0, .inr (7, [.int 3, .ref (o 1), f2, f3, f4, f5, f6, f7, f8, f9, f10])), (o 1, .inl (ca 0, 99, .inl sf))]) hN hA rfl
  exact zw_i hx hb hr hlk hP hS ⟨by rfl, by rfl⟩ dX7_ask_61
set_option maxHeartbeats 4000000 in
set_option maxRecDepth 100000 in
theorem c_X7_ask_D (l : Launch) (D : va_G) (ca : Nat → ClassId) (o : Nat → Nat) (f4 f5 f6 f7 f8 f9 f10 : Value) (thr : Int32) (mm : Nat) (sf : Nat → Int32) (sv : Nat → Int32) (h0 : mm ≤ 6) (k : Nat) (hk : k < 4) (u : Int32) (w : Nat) (hu : rIn u 0 9 = true) (hw : w < 3) (hs : ¬ rSn sf k = -1) (hN : [o 0, o 1, o 2].Nodup) : zMw l yX7_ask cX7_ask 5 (some .int) 4 95 D ca [(o 0, .inr (7, [.int thr, .ref (o 1), .ref (o 2), .int (nI mm), f4, f5, f6, f7, f8, f9, f10])), (o 1, .inl (ca 0, 99, .inl sf)), (o 2, .inl (ca 0, 594, .inl sv))] ([(o 0, .inr (7, [.int 0, .ref (o 1), .ref (o 2), .int (nI (rSm mm)), f4, f5, f6, f7, f8, f9, f10])), (o 1, .inl (ca 0, 99, .inl (rAsk sf k u w))), (o 2, .inl (ca 0, 594, .inl (rSv sf sv mm)))]) [.ref (o 0), .int (nI k), .int u, .int (nI w)] (some (.int (rAns (rAsk sf k u w) (rSn sf k) u w))) := by
  refine zMw_of (own := RX7) (by decide) rfl (Nat.le_of_ble_eq_true rfl) ?_
  intro p e s m args below meth c ls S hr hlk hP hK hl hS
  have hP : va_P D vwCl [(o 0, .inr (7, [.int thr, .ref (o 1), .ref (o 2), .int (nI mm), f4, f5, f6, f7, f8, f9, f10])), (o 1, .inl (ca 0, 99, .inl sf)), (o 2, .inl (ca 0, 594, .inl sv))] s.heap := hP
  have hS : va_S (zA [o 0, o 1, o 2]) s.heap s.heap [] := hS
  have hA : ∀ q ∈ [o 0, o 1, o 2], zA [o 0, o 1, o 2] q := fun _ h => h
  have hD := zDto (ws := [(o 0, .inr (7, [.int thr, .ref (o 1), .ref (o 2), .int (nI mm), f4, f5, f6, f7, f8, f9, f10])), (o 1, .inl (ca 0, 99, .inl sf)), (o 2, .inl (ca 0, 594, .inl sv))]) hN hA rfl
  have hx := S.1
  have hb := S.2.1
  have hl : lv_has ls 5 [(0, .ref (o 0)), (1, .int (nI k)), (2, .int u), (3, .int (nI w))] := hl
  have hin : rIn (nI k) 0 3 = true := rIn_t (a := 0) (b := 3) (by omega) (by omega) (by decide)
  have hin2 : rIn (nI w) 0 2 = true := rIn_t (a := 0) (b := 2) (by omega) (by omega) (by decide)
  refine lv_aload_n hx hb dX7_ask_0 rfl (lv_at hl 0 rfl) ?_
  refine lv_iconst (v := 0) hx hb dX7_ask_1 (by decide) ?_
  refine z_put S in_lay_X7 tyX7_ok nmX7 hK hP hD hS rfl 0 rfl 0 (by decide) fl_X7_22 rfl rfl rfl rfl (Nat.le_of_ble_eq_true rfl) dX7_ask_2 (fun H locs hP hS => ?_)
  have hP : va_P D vwCl [(o 0, .inr (7, [.int 0, .ref (o 1), .ref (o 2), .int (nI mm), f4, f5, f6, f7, f8, f9, f10])), (o 1, .inl (ca 0, 99, .inl sf)), (o 2, .inl (ca 0, 594, .inl sv))] H := hP
  have hD := zDto (ws := [(o 0, .inr (7, [.int 0, .ref (o 1), .ref (o 2), .int (nI mm), f4, f5, f6, f7, f8, f9, f10])), (o 1, .inl (ca 0, 99, .inl sf)), (o 2, .inl (ca 0, 594, .inl sv))]) hN hA rfl
  refine lv_iload_n hx hb dX7_ask_5 rfl (lv_at hl 1 rfl) ?_
  refine zcrS (As := [.int (nI k)]) (rest := []) S (c_X7_isAsker l D ca (nI k)) ml_X7_87 zy_X7_isAsker st_X7_isAsker ⟨Nat.le_of_ble_eq_true rfl, Nat.le_of_ble_eq_true rfl⟩ hK hP [] rfl rfl hl.1 rfl (Nat.le_of_ble_eq_true rfl) ⟨Nat.zero_le _, Nat.zero_le _⟩ dX7_ask_6 ?_
  refine zz_ne (tgt := 18) hx hb dX7_ask_9 (by decide) (fun _ => ?_) (fun h => False.elim (by revert h; intro h; rw [hin] at h; exact absurd h (by decide)))
  refine lv_iload_n hx hb dX7_ask_18 rfl (lv_at hl 2 rfl) ?_
  refine lv_iconst (v := 0) hx hb dX7_ask_19 (by decide) ?_
  refine lv_bipush (v := 9) hx hb dX7_ask_20 (by decide) ?_
  refine zcrS (As := [.int u, .int 0, .int 9]) (rest := []) S (c_X7_in l D ca u 0 9) ml_X7_26 zy_X7_in st_X7_in ⟨Nat.le_of_ble_eq_true rfl, Nat.le_of_ble_eq_true rfl⟩ hK hP [] rfl rfl hl.1 rfl (Nat.le_of_ble_eq_true rfl) ⟨Nat.zero_le _, Nat.zero_le _⟩ dX7_ask_22 ?_
  refine zz_eq (tgt := 37) hx hb dX7_ask_25 (by decide) (fun h => False.elim (by revert h; intro h; rw [hu] at h; exact absurd h (by decide))) (fun _ => ?_)
  refine lv_iload_n hx hb dX7_ask_28 rfl (lv_at hl 3 rfl) ?_
  refine lv_iconst (v := 0) hx hb dX7_ask_29 (by decide) ?_
  refine lv_iconst (v := 2) hx hb dX7_ask_30 (by decide) ?_
  refine zcrS (As := [.int (nI w), .int 0, .int 2]) (rest := []) S (c_X7_in l D ca (nI w) 0 2) ml_X7_26 zy_X7_in st_X7_in ⟨Nat.le_of_ble_eq_true rfl, Nat.le_of_ble_eq_true rfl⟩ hK hP [] rfl rfl hl.1 rfl (Nat.le_of_ble_eq_true rfl) ⟨Nat.zero_le _, Nat.zero_le _⟩ dX7_ask_31 ?_
  refine zz_ne (tgt := 43) hx hb dX7_ask_34 (by decide) (fun _ => ?_) (fun h => False.elim (by revert h; intro h; rw [hin2] at h; exact absurd h (by decide)))
  refine lv_aload_n hx hb dX7_ask_43 rfl (lv_at hl 0 rfl) ?_
  refine lv_iload_n hx hb dX7_ask_44 rfl (lv_at hl 1 rfl) ?_
  refine zcr (As := [.int (nI k)]) (rest := []) (q0 := 0) S (c_X7_snapshotOf l D ca o (.int 0) (.ref (o 2)) (.int (nI mm)) f4 f5 f6 f7 f8 f9 f10 sf k (by omega)) ml_X7_81 zy_X7_snapshotOf im_X7_snapshotOf se_X7_snapshotOf ⟨Nat.le_of_ble_eq_true rfl, Nat.le_of_ble_eq_true rfl⟩ hK hP [0, 1] rfl rfl rfl rfl rfl hl.1 rfl (Nat.le_of_ble_eq_true rfl) ⟨Nat.zero_le _, Nat.zero_le _⟩ dX7_ask_45 ?_
  refine lv_istore (lv' := [(4, .int (rSn sf k)), (0, .ref (o 0)), (1, .int (nI k)), (2, .int u), (3, .int (nI w))]) hx hb dX7_ask_48 hl (by decide) rfl (fun ls hl => ?_)
  refine lv_iload hx hb dX7_ask_50 (lv_at hl 0 rfl) ?_
  refine lv_iconst (v := (-1)) hx hb dX7_ask_52 (by decide) ?_
  refine lv_icmp_ne (tgt := 62) hx hb dX7_ask_53 (by decide) (fun _ => ?_) (fun h => by first | exact absurd h hs | exact absurd hs h)
  refine lv_aload_n hx hb dX7_ask_62 rfl (lv_at hl 1 rfl) ?_
  refine zcw (As := []) (rest := []) (st1 := []) (q0 := 0) (lw := [o 0, o 1, o 2]) S (c_X7_saves l D ca o (.int 0) f4 f5 f6 f7 f8 f9 f10 mm sf sv (by first | assumption | omega)  (znd_pick hN [0, 1, 2] rfl rfl)) ml_X7_74 zy_X7_saves im_X7_saves se_X7_saves ⟨Nat.le_of_ble_eq_true rfl, Nat.le_of_ble_eq_true rfl⟩ hK hP hD hS [0, 1, 2] rfl rfl rfl rfl rfl rfl rfl hl.1 rfl rfl (Nat.le_of_ble_eq_true rfl) ⟨Nat.zero_le _, Nat.zero_le _⟩ dX7_ask_63 (fun H locs hP hS => ?_)
  have hP : va_P D vwCl [(o 0, .inr (7, [.int 0, .ref (o 1), .ref (o 2), .int (nI (rSm mm)), f4, f5, f6, f7, f8, f9, f10])), (o 1, .inl (ca 0, 99, .inl sf)), (o 2, .inl (ca 0, 594, .inl (rSv sf sv mm)))] H := hP
  have hD := zDto (ws := [(o 0, .inr (7, [.int 0, .ref (o 1), .ref (o 2), .int (nI (rSm mm)), f4, f5, f6, f7, f8, f9, f10])), (o 1, .inl (ca 0, 99, .inl sf)), (o 2, .inl (ca 0, 594, .inl (rSv sf sv mm)))]) hN hA rfl
  have hsm : rSm mm ≤ 6 := by unfold rSm; split <;> omega
  refine lv_aload_n hx hb dX7_ask_66 rfl (lv_at hl 1 rfl) ?_
  refine z_get S in_lay_X7 hK hP rfl 0 rfl 1 (by decide) fl_X7_7 rfl rfl dX7_ask_67 ?_
  refine lv_iconst (v := 1) hx hb dX7_ask_70 (by decide) ?_
  refine lv_iload_n hx hb dX7_ask_71 rfl (lv_at hl 4 rfl) ?_
  refine zn_add hx hb (x := 1) (y := w) (z := 1 + w) (by omega) dX7_ask_72 ?_
  refine lv_dup2_11 hx hb dX7_ask_73 rfl rfl ?_
  refine z_iald S hK hP 1 rfl (j := 1 + w) (by omega) (by decide) dX7_ask_74 ?_
  refine lv_iconst (v := 1) hx hb dX7_ask_75 (by decide) ?_
  refine lv_iadd hx hb dX7_ask_76 ?_
  refine z_iast S hK hP hD hS 1 rfl (j := 1 + w) (by omega) (by decide) dX7_ask_77 (fun H locs hP hS => ?_)
  have hP : va_P D vwCl [(o 0, .inr (7, [.int 0, .ref (o 1), .ref (o 2), .int (nI (rSm mm)), f4, f5, f6, f7, f8, f9, f10])), (o 1, .inl (ca 0, 99, .inl (upd sf (1 + w) ((sf (1 + w)) + 1)))), (o 2, .inl (ca 0, 594, .inl (rSv sf sv mm)))] H := hP
  have hD := zDto (ws := [(o 0, .inr (7, [.int 0, .ref (o 1), .ref (o 2), .int (nI (rSm mm)), f4, f5, f6, f7, f8, f9, f10])), (o 1, .inl (ca 0, 99, .inl (upd sf (1 + w) ((sf (1 + w)) + 1)))), (o 2, .inl (ca 0, 594, .inl (rSv sf sv mm)))]) hN hA rfl
  refine lv_aload_n hx hb dX7_ask_78 rfl (lv_at hl 1 rfl) ?_
  refine z_get S in_lay_X7 hK hP rfl 0 rfl 1 (by decide) fl_X7_7 rfl rfl dX7_ask_79 ?_
  refine lv_iconst (v := 4) hx hb dX7_ask_82 (by decide) ?_
  refine lv_dup2_11 hx hb dX7_ask_83 rfl rfl ?_
  refine z_iald S hK hP 1 rfl (j := 4) (by omega) (by decide) dX7_ask_84 ?_
  refine lv_aload_n hx hb dX7_ask_85 rfl (lv_at hl 1 rfl) ?_
  refine lv_iload hx hb dX7_ask_86 (lv_at hl 0 rfl) ?_
  refine lv_iload_n hx hb dX7_ask_88 rfl (lv_at hl 4 rfl) ?_
  refine zcr (As := [.int (rSn sf k), .int (nI w)]) (rest := [.int ((upd sf (1 + w) ((sf (1 + w)) + 1)) 4), .int 4, .ref (o 1)]) (q0 := 0) S (c_X7_truly l D ca o (.int 0) (.ref (o 2)) (.int (nI (rSm mm))) f4 f5 f6 f7 f8 f9 f10 (upd sf (1 + w) ((sf (1 + w)) + 1)) (rSn sf k) w (by omega)) ml_X7_114 zy_X7_truly im_X7_truly se_X7_truly ⟨Nat.le_of_ble_eq_true rfl, Nat.le_of_ble_eq_true rfl⟩ hK hP [0, 1] rfl rfl rfl rfl rfl hl.1 rfl (Nat.le_of_ble_eq_true rfl) ⟨Nat.zero_le _, Nat.zero_le _⟩ dX7_ask_89 ?_
  have hzt := rTru_lt (sf := (upd sf (1 + w) ((sf (1 + w)) + 1))) (t := (rSn sf k)) (w := w) (by omega)
  refine lv_iload_n hx hb dX7_ask_92 rfl (lv_at hl 4 rfl) ?_
  refine zn_eq hx hb (x := rTru (upd sf (1 + w) ((sf (1 + w)) + 1)) (rSn sf k) w) (y := w) (by omega) (by omega) (tgt := 100) dX7_ask_93 (by decide) (fun c_93_1 => ?_) (fun c_93_1 => ?_)
  · refine lv_iconst (v := 0) hx hb dX7_ask_100 (by decide) ?_
    refine t_iadd hx hb dX7_ask_101 (v := (upd sf (1 + w) ((sf (1 + w)) + 1)) 4) (Int32.add_zero _) ?_
    refine z_iast S hK hP hD hS 1 rfl (j := 4) (by omega) (by decide) dX7_ask_102 (fun H locs hP hS => ?_)
    have hP : va_P D vwCl [(o 0, .inr (7, [.int 0, .ref (o 1), .ref (o 2), .int (nI (rSm mm)), f4, f5, f6, f7, f8, f9, f10])), (o 1, .inl (ca 0, 99, .inl (upd (upd sf (1 + w) ((sf (1 + w)) + 1)) 4 ((upd sf (1 + w) ((sf (1 + w)) + 1)) 4)))), (o 2, .inl (ca 0, 594, .inl (rSv sf sv mm)))] H := hP
    have hD := zDto (ws := [(o 0, .inr (7, [.int 0, .ref (o 1), .ref (o 2), .int (nI (rSm mm)), f4, f5, f6, f7, f8, f9, f10])), (o 1, .inl (ca 0, 99, .inl (upd (upd sf (1 + w) ((sf (1 + w)) + 1)) 4 ((upd sf (1 + w) ((sf (1 + w)) + 1)) 4)))), (o 2, .inl (ca 0, 594, .inl (rSv sf sv mm)))]) hN hA rfl
    refine lv_aload_n hx hb dX7_ask_103 rfl (lv_at hl 1 rfl) ?_
    refine z_get S in_lay_X7 hK hP rfl 0 rfl 1 (by decide) fl_X7_7 rfl rfl dX7_ask_104 ?_
    refine lv_iconst (v := 5) hx hb dX7_ask_107 (by decide) ?_
    refine lv_dup2_11 hx hb dX7_ask_108 rfl rfl ?_
    refine z_iald S hK hP 1 rfl (j := 5) (by omega) (by decide) dX7_ask_109 ?_
    refine lv_aload_n hx hb dX7_ask_110 rfl (lv_at hl 1 rfl) ?_
    refine lv_iload hx hb dX7_ask_111 (lv_at hl 0 rfl) ?_
    refine lv_iload_n hx hb dX7_ask_113 rfl (lv_at hl 3 rfl) ?_
    refine lv_iload_n hx hb dX7_ask_114 rfl (lv_at hl 4 rfl) ?_
    refine zcr (As := [.int (rSn sf k), .int u, .int (nI w)]) (rest := [.int ((upd (upd sf (1 + w) ((sf (1 + w)) + 1)) 4 ((upd sf (1 + w) ((sf (1 + w)) + 1)) 4)) 5), .int 5, .ref (o 1)]) (q0 := 0) S (c_X7_costs l D ca o (.int 0) (.ref (o 2)) (.int (nI (rSm mm))) f4 f5 f6 f7 f8 f9 f10 (upd (upd sf (1 + w) ((sf (1 + w)) + 1)) 4 ((upd sf (1 + w) ((sf (1 + w)) + 1)) 4)) (rSn sf k) u w (by omega)) ml_X7_123 zy_X7_costs im_X7_costs se_X7_costs ⟨Nat.le_of_ble_eq_true rfl, Nat.le_of_ble_eq_true rfl⟩ hK hP [0, 1] rfl rfl rfl rfl rfl hl.1 rfl (Nat.le_of_ble_eq_true rfl) ⟨Nat.zero_le _, Nat.zero_le _⟩ dX7_ask_115 ?_
    refine lv_iadd hx hb dX7_ask_118 ?_
    refine z_iast S hK hP hD hS 1 rfl (j := 5) (by omega) (by decide) dX7_ask_119 (fun H locs hP hS => ?_)
    have hP : va_P D vwCl [(o 0, .inr (7, [.int 0, .ref (o 1), .ref (o 2), .int (nI (rSm mm)), f4, f5, f6, f7, f8, f9, f10])), (o 1, .inl (ca 0, 99, .inl (upd (upd (upd sf (1 + w) ((sf (1 + w)) + 1)) 4 ((upd sf (1 + w) ((sf (1 + w)) + 1)) 4)) 5 (((upd (upd sf (1 + w) ((sf (1 + w)) + 1)) 4 ((upd sf (1 + w) ((sf (1 + w)) + 1)) 4)) 5) + (rCost (upd (upd sf (1 + w) ((sf (1 + w)) + 1)) 4 ((upd sf (1 + w) ((sf (1 + w)) + 1)) 4)) (rSn sf k) u w))))), (o 2, .inl (ca 0, 594, .inl (rSv sf sv mm)))] H := hP
    have hD := zDto (ws := [(o 0, .inr (7, [.int 0, .ref (o 1), .ref (o 2), .int (nI (rSm mm)), f4, f5, f6, f7, f8, f9, f10])), (o 1, .inl (ca 0, 99, .inl (upd (upd (upd sf (1 + w) ((sf (1 + w)) + 1)) 4 ((upd sf (1 + w) ((sf (1 + w)) + 1)) 4)) 5 (((upd (upd sf (1 + w) ((sf (1 + w)) + 1)) 4 ((upd sf (1 + w) ((sf (1 + w)) + 1)) 4)) 5) + (rCost (upd (upd sf (1 + w) ((sf (1 + w)) + 1)) 4 ((upd sf (1 + w) ((sf (1 + w)) + 1)) 4)) (rSn sf k) u w))))), (o 2, .inl (ca 0, 594, .inl (rSv sf sv mm)))]) hN hA rfl
    refine lv_aload_n hx hb dX7_ask_120 rfl (lv_at hl 1 rfl) ?_
    refine z_get S in_lay_X7 hK hP rfl 0 rfl 1 (by decide) fl_X7_7 rfl rfl dX7_ask_121 ?_
    refine lv_bipush (v := 91) hx hb dX7_ask_124 (by decide) ?_
    refine lv_iconst (v := 2) hx hb dX7_ask_126 (by decide) ?_
    refine lv_iload_n hx hb dX7_ask_127 rfl (lv_at hl 2 rfl) ?_
    refine zn_mul hx hb (x := 2) (y := k) (z := 2 * k) (by first | rfl | omega) dX7_ask_128 ?_
    refine zn_add hx hb (x := 91) (y := 2 * k) (z := 91 + (2 * k)) (by omega) dX7_ask_129 ?_
    refine lv_iconst (v := 1) hx hb dX7_ask_130 (by decide) ?_
    refine zn_add hx hb (x := 91 + (2 * k)) (y := 1) (z := (91 + (2 * k)) + 1) (by omega) dX7_ask_131 ?_
    refine lv_dup2_11 hx hb dX7_ask_132 rfl rfl ?_
    refine z_iald S hK hP 1 rfl (j := (91 + (2 * k)) + 1) (by omega) (by decide) dX7_ask_133 ?_
    refine lv_iconst (v := 1) hx hb dX7_ask_134 (by decide) ?_
    refine lv_iadd hx hb dX7_ask_135 ?_
    refine z_iast S hK hP hD hS 1 rfl (j := (91 + (2 * k)) + 1) (by omega) (by decide) dX7_ask_136 (fun H locs hP hS => ?_)
    have hP : va_P D vwCl [(o 0, .inr (7, [.int 0, .ref (o 1), .ref (o 2), .int (nI (rSm mm)), f4, f5, f6, f7, f8, f9, f10])), (o 1, .inl (ca 0, 99, .inl (upd (upd (upd (upd sf (1 + w) ((sf (1 + w)) + 1)) 4 ((upd sf (1 + w) ((sf (1 + w)) + 1)) 4)) 5 (((upd (upd sf (1 + w) ((sf (1 + w)) + 1)) 4 ((upd sf (1 + w) ((sf (1 + w)) + 1)) 4)) 5) + (rCost (upd (upd sf (1 + w) ((sf (1 + w)) + 1)) 4 ((upd sf (1 + w) ((sf (1 + w)) + 1)) 4)) (rSn sf k) u w))) ((91 + (2 * k)) + 1) (((upd (upd (upd sf (1 + w) ((sf (1 + w)) + 1)) 4 ((upd sf (1 + w) ((sf (1 + w)) + 1)) 4)) 5 (((upd (upd sf (1 + w) ((sf (1 + w)) + 1)) 4 ((upd sf (1 + w) ((sf (1 + w)) + 1)) 4)) 5) + (rCost (upd (upd sf (1 + w) ((sf (1 + w)) + 1)) 4 ((upd sf (1 + w) ((sf (1 + w)) + 1)) 4)) (rSn sf k) u w))) ((91 + (2 * k)) + 1)) + 1)))), (o 2, .inl (ca 0, 594, .inl (rSv sf sv mm)))] H := hP
    have hD := zDto (ws := [(o 0, .inr (7, [.int 0, .ref (o 1), .ref (o 2), .int (nI (rSm mm)), f4, f5, f6, f7, f8, f9, f10])), (o 1, .inl (ca 0, 99, .inl (upd (upd (upd (upd sf (1 + w) ((sf (1 + w)) + 1)) 4 ((upd sf (1 + w) ((sf (1 + w)) + 1)) 4)) 5 (((upd (upd sf (1 + w) ((sf (1 + w)) + 1)) 4 ((upd sf (1 + w) ((sf (1 + w)) + 1)) 4)) 5) + (rCost (upd (upd sf (1 + w) ((sf (1 + w)) + 1)) 4 ((upd sf (1 + w) ((sf (1 + w)) + 1)) 4)) (rSn sf k) u w))) ((91 + (2 * k)) + 1) (((upd (upd (upd sf (1 + w) ((sf (1 + w)) + 1)) 4 ((upd sf (1 + w) ((sf (1 + w)) + 1)) 4)) 5 (((upd (upd sf (1 + w) ((sf (1 + w)) + 1)) 4 ((upd sf (1 + w) ((sf (1 + w)) + 1)) 4)) 5) + (rCost (upd (upd sf (1 + w) ((sf (1 + w)) + 1)) 4 ((upd sf (1 + w) ((sf (1 + w)) + 1)) 4)) (rSn sf k) u w))) ((91 + (2 * k)) + 1)) + 1)))), (o 2, .inl (ca 0, 594, .inl (rSv sf sv mm)))]) hN hA rfl
    refine lv_aload_n hx hb dX7_ask_137 rfl (lv_at hl 1 rfl) ?_
    refine lv_iload hx hb dX7_ask_138 (lv_at hl 0 rfl) ?_
    refine lv_iload_n hx hb dX7_ask_140 rfl (lv_at hl 3 rfl) ?_
    refine lv_iload_n hx hb dX7_ask_141 rfl (lv_at hl 4 rfl) ?_
    refine zcr (As := [.int (rSn sf k), .int u, .int (nI w)]) (rest := []) (q0 := 0) S (c_X7_answers l D ca o (.int 0) (.ref (o 2)) (.int (nI (rSm mm))) f4 f5 f6 f7 f8 f9 f10 (upd (upd (upd (upd sf (1 + w) ((sf (1 + w)) + 1)) 4 ((upd sf (1 + w) ((sf (1 + w)) + 1)) 4)) 5 (((upd (upd sf (1 + w) ((sf (1 + w)) + 1)) 4 ((upd sf (1 + w) ((sf (1 + w)) + 1)) 4)) 5) + (rCost (upd (upd sf (1 + w) ((sf (1 + w)) + 1)) 4 ((upd sf (1 + w) ((sf (1 + w)) + 1)) 4)) (rSn sf k) u w))) ((91 + (2 * k)) + 1) (((upd (upd (upd sf (1 + w) ((sf (1 + w)) + 1)) 4 ((upd sf (1 + w) ((sf (1 + w)) + 1)) 4)) 5 (((upd (upd sf (1 + w) ((sf (1 + w)) + 1)) 4 ((upd sf (1 + w) ((sf (1 + w)) + 1)) 4)) 5) + (rCost (upd (upd sf (1 + w) ((sf (1 + w)) + 1)) 4 ((upd sf (1 + w) ((sf (1 + w)) + 1)) 4)) (rSn sf k) u w))) ((91 + (2 * k)) + 1)) + 1)) (rSn sf k) u w (by omega)) ml_X7_126 zy_X7_answers im_X7_answers se_X7_answers ⟨Nat.le_of_ble_eq_true rfl, Nat.le_of_ble_eq_true rfl⟩ hK hP [0, 1] rfl rfl rfl rfl rfl hl.1 rfl (Nat.le_of_ble_eq_true rfl) ⟨Nat.zero_le _, Nat.zero_le _⟩ dX7_ask_142 ?_
    have hz : rAsk sf k u w = upd (upd (upd (upd sf (1 + w) ((sf (1 + w)) + 1)) 4 ((upd sf (1 + w) ((sf (1 + w)) + 1)) 4)) 5 (((upd (upd sf (1 + w) ((sf (1 + w)) + 1)) 4 ((upd sf (1 + w) ((sf (1 + w)) + 1)) 4)) 5) + (rCost (upd (upd sf (1 + w) ((sf (1 + w)) + 1)) 4 ((upd sf (1 + w) ((sf (1 + w)) + 1)) 4)) (rSn sf k) u w))) ((91 + (2 * k)) + 1) (((upd (upd (upd sf (1 + w) ((sf (1 + w)) + 1)) 4 ((upd sf (1 + w) ((sf (1 + w)) + 1)) 4)) 5 (((upd (upd sf (1 + w) ((sf (1 + w)) + 1)) 4 ((upd sf (1 + w) ((sf (1 + w)) + 1)) 4)) 5) + (rCost (upd (upd sf (1 + w) ((sf (1 + w)) + 1)) 4 ((upd sf (1 + w) ((sf (1 + w)) + 1)) 4)) (rSn sf k) u w))) ((91 + (2 * k)) + 1)) + 1) := by simp [rAsk, c_93_1]
    exact zw_i hx hb hr hlk hP hS ⟨by rw [hz], by rw [hz] <;> rfl⟩ dX7_ask_145
  · refine lv_iconst (v := 1) hx hb dX7_ask_96 (by decide) ?_
    refine lv_goto (tgt := 101) hx hb dX7_ask_97 (by decide) ?_
    refine lv_iadd hx hb dX7_ask_101 ?_
    refine z_iast S hK hP hD hS 1 rfl (j := 4) (by omega) (by decide) dX7_ask_102 (fun H locs hP hS => ?_)
    have hP : va_P D vwCl [(o 0, .inr (7, [.int 0, .ref (o 1), .ref (o 2), .int (nI (rSm mm)), f4, f5, f6, f7, f8, f9, f10])), (o 1, .inl (ca 0, 99, .inl (upd (upd sf (1 + w) ((sf (1 + w)) + 1)) 4 (((upd sf (1 + w) ((sf (1 + w)) + 1)) 4) + 1)))), (o 2, .inl (ca 0, 594, .inl (rSv sf sv mm)))] H := hP
    have hD := zDto (ws := [(o 0, .inr (7, [.int 0, .ref (o 1), .ref (o 2), .int (nI (rSm mm)), f4, f5, f6, f7, f8, f9, f10])), (o 1, .inl (ca 0, 99, .inl (upd (upd sf (1 + w) ((sf (1 + w)) + 1)) 4 (((upd sf (1 + w) ((sf (1 + w)) + 1)) 4) + 1)))), (o 2, .inl (ca 0, 594, .inl (rSv sf sv mm)))]) hN hA rfl
    refine lv_aload_n hx hb dX7_ask_103 rfl (lv_at hl 1 rfl) ?_
    refine z_get S in_lay_X7 hK hP rfl 0 rfl 1 (by decide) fl_X7_7 rfl rfl dX7_ask_104 ?_
    refine lv_iconst (v := 5) hx hb dX7_ask_107 (by decide) ?_
    refine lv_dup2_11 hx hb dX7_ask_108 rfl rfl ?_
    refine z_iald S hK hP 1 rfl (j := 5) (by omega) (by decide) dX7_ask_109 ?_
    refine lv_aload_n hx hb dX7_ask_110 rfl (lv_at hl 1 rfl) ?_
    refine lv_iload hx hb dX7_ask_111 (lv_at hl 0 rfl) ?_
    refine lv_iload_n hx hb dX7_ask_113 rfl (lv_at hl 3 rfl) ?_
    refine lv_iload_n hx hb dX7_ask_114 rfl (lv_at hl 4 rfl) ?_
    refine zcr (As := [.int (rSn sf k), .int u, .int (nI w)]) (rest := [.int ((upd (upd sf (1 + w) ((sf (1 + w)) + 1)) 4 (((upd sf (1 + w) ((sf (1 + w)) + 1)) 4) + 1)) 5), .int 5, .ref (o 1)]) (q0 := 0) S (c_X7_costs l D ca o (.int 0) (.ref (o 2)) (.int (nI (rSm mm))) f4 f5 f6 f7 f8 f9 f10 (upd (upd sf (1 + w) ((sf (1 + w)) + 1)) 4 (((upd sf (1 + w) ((sf (1 + w)) + 1)) 4) + 1)) (rSn sf k) u w (by omega)) ml_X7_123 zy_X7_costs im_X7_costs se_X7_costs ⟨Nat.le_of_ble_eq_true rfl, Nat.le_of_ble_eq_true rfl⟩ hK hP [0, 1] rfl rfl rfl rfl rfl hl.1 rfl (Nat.le_of_ble_eq_true rfl) ⟨Nat.zero_le _, Nat.zero_le _⟩ dX7_ask_115 ?_
    refine lv_iadd hx hb dX7_ask_118 ?_
    refine z_iast S hK hP hD hS 1 rfl (j := 5) (by omega) (by decide) dX7_ask_119 (fun H locs hP hS => ?_)
    have hP : va_P D vwCl [(o 0, .inr (7, [.int 0, .ref (o 1), .ref (o 2), .int (nI (rSm mm)), f4, f5, f6, f7, f8, f9, f10])), (o 1, .inl (ca 0, 99, .inl (upd (upd (upd sf (1 + w) ((sf (1 + w)) + 1)) 4 (((upd sf (1 + w) ((sf (1 + w)) + 1)) 4) + 1)) 5 (((upd (upd sf (1 + w) ((sf (1 + w)) + 1)) 4 (((upd sf (1 + w) ((sf (1 + w)) + 1)) 4) + 1)) 5) + (rCost (upd (upd sf (1 + w) ((sf (1 + w)) + 1)) 4 (((upd sf (1 + w) ((sf (1 + w)) + 1)) 4) + 1)) (rSn sf k) u w))))), (o 2, .inl (ca 0, 594, .inl (rSv sf sv mm)))] H := hP
    have hD := zDto (ws := [(o 0, .inr (7, [.int 0, .ref (o 1), .ref (o 2), .int (nI (rSm mm)), f4, f5, f6, f7, f8, f9, f10])), (o 1, .inl (ca 0, 99, .inl (upd (upd (upd sf (1 + w) ((sf (1 + w)) + 1)) 4 (((upd sf (1 + w) ((sf (1 + w)) + 1)) 4) + 1)) 5 (((upd (upd sf (1 + w) ((sf (1 + w)) + 1)) 4 (((upd sf (1 + w) ((sf (1 + w)) + 1)) 4) + 1)) 5) + (rCost (upd (upd sf (1 + w) ((sf (1 + w)) + 1)) 4 (((upd sf (1 + w) ((sf (1 + w)) + 1)) 4) + 1)) (rSn sf k) u w))))), (o 2, .inl (ca 0, 594, .inl (rSv sf sv mm)))]) hN hA rfl
    refine lv_aload_n hx hb dX7_ask_120 rfl (lv_at hl 1 rfl) ?_
    refine z_get S in_lay_X7 hK hP rfl 0 rfl 1 (by decide) fl_X7_7 rfl rfl dX7_ask_121 ?_
    refine lv_bipush (v := 91) hx hb dX7_ask_124 (by decide) ?_
    refine lv_iconst (v := 2) hx hb dX7_ask_126 (by decide) ?_
    refine lv_iload_n hx hb dX7_ask_127 rfl (lv_at hl 2 rfl) ?_
    refine zn_mul hx hb (x := 2) (y := k) (z := 2 * k) (by first | rfl | omega) dX7_ask_128 ?_
    refine zn_add hx hb (x := 91) (y := 2 * k) (z := 91 + (2 * k)) (by omega) dX7_ask_129 ?_
    refine lv_iconst (v := 1) hx hb dX7_ask_130 (by decide) ?_
    refine zn_add hx hb (x := 91 + (2 * k)) (y := 1) (z := (91 + (2 * k)) + 1) (by omega) dX7_ask_131 ?_
    refine lv_dup2_11 hx hb dX7_ask_132 rfl rfl ?_
    refine z_iald S hK hP 1 rfl (j := (91 + (2 * k)) + 1) (by omega) (by decide) dX7_ask_133 ?_
    refine lv_iconst (v := 1) hx hb dX7_ask_134 (by decide) ?_
    refine lv_iadd hx hb dX7_ask_135 ?_
    refine z_iast S hK hP hD hS 1 rfl (j := (91 + (2 * k)) + 1) (by omega) (by decide) dX7_ask_136 (fun H locs hP hS => ?_)
    have hP : va_P D vwCl [(o 0, .inr (7, [.int 0, .ref (o 1), .ref (o 2), .int (nI (rSm mm)), f4, f5, f6, f7, f8, f9, f10])), (o 1, .inl (ca 0, 99, .inl (upd (upd (upd (upd sf (1 + w) ((sf (1 + w)) + 1)) 4 (((upd sf (1 + w) ((sf (1 + w)) + 1)) 4) + 1)) 5 (((upd (upd sf (1 + w) ((sf (1 + w)) + 1)) 4 (((upd sf (1 + w) ((sf (1 + w)) + 1)) 4) + 1)) 5) + (rCost (upd (upd sf (1 + w) ((sf (1 + w)) + 1)) 4 (((upd sf (1 + w) ((sf (1 + w)) + 1)) 4) + 1)) (rSn sf k) u w))) ((91 + (2 * k)) + 1) (((upd (upd (upd sf (1 + w) ((sf (1 + w)) + 1)) 4 (((upd sf (1 + w) ((sf (1 + w)) + 1)) 4) + 1)) 5 (((upd (upd sf (1 + w) ((sf (1 + w)) + 1)) 4 (((upd sf (1 + w) ((sf (1 + w)) + 1)) 4) + 1)) 5) + (rCost (upd (upd sf (1 + w) ((sf (1 + w)) + 1)) 4 (((upd sf (1 + w) ((sf (1 + w)) + 1)) 4) + 1)) (rSn sf k) u w))) ((91 + (2 * k)) + 1)) + 1)))), (o 2, .inl (ca 0, 594, .inl (rSv sf sv mm)))] H := hP
    have hD := zDto (ws := [(o 0, .inr (7, [.int 0, .ref (o 1), .ref (o 2), .int (nI (rSm mm)), f4, f5, f6, f7, f8, f9, f10])), (o 1, .inl (ca 0, 99, .inl (upd (upd (upd (upd sf (1 + w) ((sf (1 + w)) + 1)) 4 (((upd sf (1 + w) ((sf (1 + w)) + 1)) 4) + 1)) 5 (((upd (upd sf (1 + w) ((sf (1 + w)) + 1)) 4 (((upd sf (1 + w) ((sf (1 + w)) + 1)) 4) + 1)) 5) + (rCost (upd (upd sf (1 + w) ((sf (1 + w)) + 1)) 4 (((upd sf (1 + w) ((sf (1 + w)) + 1)) 4) + 1)) (rSn sf k) u w))) ((91 + (2 * k)) + 1) (((upd (upd (upd sf (1 + w) ((sf (1 + w)) + 1)) 4 (((upd sf (1 + w) ((sf (1 + w)) + 1)) 4) + 1)) 5 (((upd (upd sf (1 + w) ((sf (1 + w)) + 1)) 4 (((upd sf (1 + w) ((sf (1 + w)) + 1)) 4) + 1)) 5) + (rCost (upd (upd sf (1 + w) ((sf (1 + w)) + 1)) 4 (((upd sf (1 + w) ((sf (1 + w)) + 1)) 4) + 1)) (rSn sf k) u w))) ((91 + (2 * k)) + 1)) + 1)))), (o 2, .inl (ca 0, 594, .inl (rSv sf sv mm)))]) hN hA rfl
    refine lv_aload_n hx hb dX7_ask_137 rfl (lv_at hl 1 rfl) ?_
    refine lv_iload hx hb dX7_ask_138 (lv_at hl 0 rfl) ?_
    refine lv_iload_n hx hb dX7_ask_140 rfl (lv_at hl 3 rfl) ?_
    refine lv_iload_n hx hb dX7_ask_141 rfl (lv_at hl 4 rfl) ?_
    refine zcr (As := [.int (rSn sf k), .int u, .int (nI w)]) (rest := []) (q0 := 0) S (c_X7_answers l D ca o (.int 0) (.ref (o 2)) (.int (nI (rSm mm))) f4 f5 f6 f7 f8 f9 f10 (upd (upd (upd (upd sf (1 + w) ((sf (1 + w)) + 1)) 4 (((upd sf (1 + w) ((sf (1 + w)) + 1)) 4) + 1)) 5 (((upd (upd sf (1 + w) ((sf (1 + w)) + 1)) 4 (((upd sf (1 + w) ((sf (1 + w)) + 1)) 4) + 1)) 5) + (rCost (upd (upd sf (1 + w) ((sf (1 + w)) + 1)) 4 (((upd sf (1 + w) ((sf (1 + w)) + 1)) 4) + 1)) (rSn sf k) u w))) ((91 + (2 * k)) + 1) (((upd (upd (upd sf (1 + w) ((sf (1 + w)) + 1)) 4 (((upd sf (1 + w) ((sf (1 + w)) + 1)) 4) + 1)) 5 (((upd (upd sf (1 + w) ((sf (1 + w)) + 1)) 4 (((upd sf (1 + w) ((sf (1 + w)) + 1)) 4) + 1)) 5) + (rCost (upd (upd sf (1 + w) ((sf (1 + w)) + 1)) 4 (((upd sf (1 + w) ((sf (1 + w)) + 1)) 4) + 1)) (rSn sf k) u w))) ((91 + (2 * k)) + 1)) + 1)) (rSn sf k) u w (by omega)) ml_X7_126 zy_X7_answers im_X7_answers se_X7_answers ⟨Nat.le_of_ble_eq_true rfl, Nat.le_of_ble_eq_true rfl⟩ hK hP [0, 1] rfl rfl rfl rfl rfl hl.1 rfl (Nat.le_of_ble_eq_true rfl) ⟨Nat.zero_le _, Nat.zero_le _⟩ dX7_ask_142 ?_
    have hz : rAsk sf k u w = upd (upd (upd (upd sf (1 + w) ((sf (1 + w)) + 1)) 4 (((upd sf (1 + w) ((sf (1 + w)) + 1)) 4) + 1)) 5 (((upd (upd sf (1 + w) ((sf (1 + w)) + 1)) 4 (((upd sf (1 + w) ((sf (1 + w)) + 1)) 4) + 1)) 5) + (rCost (upd (upd sf (1 + w) ((sf (1 + w)) + 1)) 4 (((upd sf (1 + w) ((sf (1 + w)) + 1)) 4) + 1)) (rSn sf k) u w))) ((91 + (2 * k)) + 1) (((upd (upd (upd sf (1 + w) ((sf (1 + w)) + 1)) 4 (((upd sf (1 + w) ((sf (1 + w)) + 1)) 4) + 1)) 5 (((upd (upd sf (1 + w) ((sf (1 + w)) + 1)) 4 (((upd sf (1 + w) ((sf (1 + w)) + 1)) 4) + 1)) 5) + (rCost (upd (upd sf (1 + w) ((sf (1 + w)) + 1)) 4 (((upd sf (1 + w) ((sf (1 + w)) + 1)) 4) + 1)) (rSn sf k) u w))) ((91 + (2 * k)) + 1)) + 1) := by simp [rAsk, c_93_1]
    exact zw_i hx hb hr hlk hP hS ⟨by rw [hz], by rw [hz] <;> rfl⟩ dX7_ask_145
set_option maxHeartbeats 4000000 in
set_option maxRecDepth 100000 in
theorem c_X7_append_A (l : Launch) (D : va_G) (ca : Nat → ClassId) (o : Nat → Nat) (f1 f2 f3 f4 f5 f6 f7 f8 f9 f10 : Value) (thr : Int32) (v : Int32) (hv : rIn v 33 126 = false) (hN : [o 0].Nodup) : zMw l yX7_append cX7_append 2 (some .int) 1 22 D ca [(o 0, .inr (7, [.int thr, f1, f2, f3, f4, f5, f6, f7, f8, f9, f10]))] ([(o 0, .inr (7, [.int 1, f1, f2, f3, f4, f5, f6, f7, f8, f9, f10]))]) [.ref (o 0), .int v] (some (.int 0)) := by
  refine zMw_of (own := RX7) (by decide) rfl (Nat.le_of_ble_eq_true rfl) ?_
  intro p e s m args below meth c ls S hr hlk hP hK hl hS
  have hP : va_P D vwCl [(o 0, .inr (7, [.int thr, f1, f2, f3, f4, f5, f6, f7, f8, f9, f10]))] s.heap := hP
  have hS : va_S (zA [o 0]) s.heap s.heap [] := hS
  have hA : ∀ q ∈ [o 0], zA [o 0] q := fun _ h => h
  have hD := zDto (ws := [(o 0, .inr (7, [.int thr, f1, f2, f3, f4, f5, f6, f7, f8, f9, f10]))]) hN hA rfl
  have hx := S.1
  have hb := S.2.1
  have hl : lv_has ls 2 [(0, .ref (o 0)), (1, .int v)] := hl
  refine lv_aload_n hx hb dX7_append_0 rfl (lv_at hl 0 rfl) ?_
  refine lv_iconst (v := 0) hx hb dX7_append_1 (by decide) ?_
  refine z_put S in_lay_X7 tyX7_ok nmX7 hK hP hD hS rfl 0 rfl 0 (by decide) fl_X7_22 rfl rfl rfl rfl (Nat.le_of_ble_eq_true rfl) dX7_append_2 (fun H locs hP hS => ?_)
  have hP : va_P D vwCl [(o 0, .inr (7, [.int 0, f1, f2, f3, f4, f5, f6, f7, f8, f9, f10]))] H := hP
  have hD := zDto (ws := [(o 0, .inr (7, [.int 0, f1, f2, f3, f4, f5, f6, f7, f8, f9, f10]))]) hN hA rfl
  refine lv_iload_n hx hb dX7_append_5 rfl (lv_at hl 1 rfl) ?_
  refine lv_bipush (v := 33) hx hb dX7_append_6 (by decide) ?_
  refine lv_bipush (v := 126) hx hb dX7_append_8 (by decide) ?_
  refine zcrS (As := [.int v, .int 33, .int 126]) (rest := []) S (c_X7_in l D ca v 33 126) ml_X7_26 zy_X7_in st_X7_in ⟨Nat.le_of_ble_eq_true rfl, Nat.le_of_ble_eq_true rfl⟩ hK hP [] rfl rfl hl.1 rfl (Nat.le_of_ble_eq_true rfl) ⟨Nat.zero_le _, Nat.zero_le _⟩ dX7_append_10 ?_
  refine zz_ne (tgt := 22) hx hb dX7_append_13 (by decide) (fun h => False.elim (by revert h; intro h; rw [hv] at h; exact absurd h (by decide))) (fun _ => ?_)
  refine lv_aload_n hx hb dX7_append_16 rfl (lv_at hl 0 rfl) ?_
  refine lv_iconst (v := 1) hx hb dX7_append_17 (by decide) ?_
  refine zcw (As := [.int 1]) (rest := []) (st1 := [.int 0]) (q0 := 0) (lw := [o 0]) S (c_X7_fails l D ca o f1 f2 f3 f4 f5 f6 f7 f8 f9 f10 0  1 (znd_pick hN [0] rfl rfl)) ml_X7_67 zy_X7_fails im_X7_fails se_X7_fails ⟨Nat.le_of_ble_eq_true rfl, Nat.le_of_ble_eq_true rfl⟩ hK hP hD hS [0] rfl rfl rfl rfl rfl rfl rfl hl.1 rfl rfl (Nat.le_of_ble_eq_true rfl) ⟨Nat.zero_le _, Nat.zero_le _⟩ dX7_append_18 (fun H locs hP hS => ?_)
  have hP : va_P D vwCl [(o 0, .inr (7, [.int 1, f1, f2, f3, f4, f5, f6, f7, f8, f9, f10]))] H := hP
  have hD := zDto (ws := [(o 0, .inr (7, [.int 1, f1, f2, f3, f4, f5, f6, f7, f8, f9, f10]))]) hN hA rfl
  exact zw_i hx hb hr hlk hP hS ⟨by rfl, by rfl⟩ dX7_append_21
set_option maxHeartbeats 4000000 in
set_option maxRecDepth 100000 in
theorem c_X7_append_B (l : Launch) (D : va_G) (ca : Nat → ClassId) (o : Nat → Nat) (f1 f2 f3 f6 f7 f8 f9 f10 : Value) (thr : Int32) (n : Nat) (g : Nat → Nat) (h0 : n ≤ 60) (v : Int32) (hv : rIn v 33 126 = true) (hn6 : n = 60) (hN : [o 0, o 3].Nodup) : zMw l yX7_append cX7_append 2 (some .int) 1 22 D ca [(o 0, .inr (7, [.int thr, f1, f2, f3, .ref (o 3), .int (nI n), f6, f7, f8, f9, f10])), (o 3, .inl (ca 0, 60, .inl (fun k => nI (g k))))] ([(o 0, .inr (7, [.int 2, f1, f2, f3, .ref (o 3), .int (nI n), f6, f7, f8, f9, f10])), (o 3, .inl (ca 0, 60, .inl (fun k => nI (g k))))]) [.ref (o 0), .int v] (some (.int 0)) := by
  refine zMw_of (own := RX7) (by decide) rfl (Nat.le_of_ble_eq_true rfl) ?_
  intro p e s m args below meth c ls S hr hlk hP hK hl hS
  have hP : va_P D vwCl [(o 0, .inr (7, [.int thr, f1, f2, f3, .ref (o 3), .int (nI n), f6, f7, f8, f9, f10])), (o 3, .inl (ca 0, 60, .inl (fun k => nI (g k))))] s.heap := hP
  have hS : va_S (zA [o 0, o 3]) s.heap s.heap [] := hS
  have hA : ∀ q ∈ [o 0, o 3], zA [o 0, o 3] q := fun _ h => h
  have hD := zDto (ws := [(o 0, .inr (7, [.int thr, f1, f2, f3, .ref (o 3), .int (nI n), f6, f7, f8, f9, f10])), (o 3, .inl (ca 0, 60, .inl (fun k => nI (g k))))]) hN hA rfl
  have hx := S.1
  have hb := S.2.1
  have hl : lv_has ls 2 [(0, .ref (o 0)), (1, .int v)] := hl
  refine lv_aload_n hx hb dX7_append_0 rfl (lv_at hl 0 rfl) ?_
  refine lv_iconst (v := 0) hx hb dX7_append_1 (by decide) ?_
  refine z_put S in_lay_X7 tyX7_ok nmX7 hK hP hD hS rfl 0 rfl 0 (by decide) fl_X7_22 rfl rfl rfl rfl (Nat.le_of_ble_eq_true rfl) dX7_append_2 (fun H locs hP hS => ?_)
  have hP : va_P D vwCl [(o 0, .inr (7, [.int 0, f1, f2, f3, .ref (o 3), .int (nI n), f6, f7, f8, f9, f10])), (o 3, .inl (ca 0, 60, .inl (fun k => nI (g k))))] H := hP
  have hD := zDto (ws := [(o 0, .inr (7, [.int 0, f1, f2, f3, .ref (o 3), .int (nI n), f6, f7, f8, f9, f10])), (o 3, .inl (ca 0, 60, .inl (fun k => nI (g k))))]) hN hA rfl
  refine lv_iload_n hx hb dX7_append_5 rfl (lv_at hl 1 rfl) ?_
  refine lv_bipush (v := 33) hx hb dX7_append_6 (by decide) ?_
  refine lv_bipush (v := 126) hx hb dX7_append_8 (by decide) ?_
  refine zcrS (As := [.int v, .int 33, .int 126]) (rest := []) S (c_X7_in l D ca v 33 126) ml_X7_26 zy_X7_in st_X7_in ⟨Nat.le_of_ble_eq_true rfl, Nat.le_of_ble_eq_true rfl⟩ hK hP [] rfl rfl hl.1 rfl (Nat.le_of_ble_eq_true rfl) ⟨Nat.zero_le _, Nat.zero_le _⟩ dX7_append_10 ?_
  refine zz_ne (tgt := 22) hx hb dX7_append_13 (by decide) (fun _ => ?_) (fun h => False.elim (by revert h; intro h; rw [hv] at h; exact absurd h (by decide)))
  refine lv_aload_n hx hb dX7_append_22 rfl (lv_at hl 0 rfl) ?_
  refine z_get S in_lay_X7 hK hP rfl 0 rfl 5 (by decide) fl_X7_129 rfl rfl dX7_append_23 ?_
  refine lv_bipush (v := 60) hx hb dX7_append_26 (by decide) ?_
  refine zn_ne hx hb (x := n) (y := 60) (by omega) (by omega) (tgt := 37) dX7_append_28 (by decide) (fun h => absurd h (by omega)) (fun _ => ?_)
  refine lv_aload_n hx hb dX7_append_31 rfl (lv_at hl 0 rfl) ?_
  refine lv_iconst (v := 2) hx hb dX7_append_32 (by decide) ?_
  refine zcw (As := [.int 2]) (rest := []) (st1 := [.int 0]) (q0 := 0) (lw := [o 0]) S (c_X7_fails l D ca o f1 f2 f3 (.ref (o 3)) (.int (nI n)) f6 f7 f8 f9 f10 0  2 (znd_pick hN [0] rfl rfl)) ml_X7_67 zy_X7_fails im_X7_fails se_X7_fails ⟨Nat.le_of_ble_eq_true rfl, Nat.le_of_ble_eq_true rfl⟩ hK hP hD hS [0] rfl rfl rfl rfl rfl rfl rfl hl.1 rfl rfl (Nat.le_of_ble_eq_true rfl) ⟨Nat.zero_le _, Nat.zero_le _⟩ dX7_append_33 (fun H locs hP hS => ?_)
  have hP : va_P D vwCl [(o 0, .inr (7, [.int 2, f1, f2, f3, .ref (o 3), .int (nI n), f6, f7, f8, f9, f10])), (o 3, .inl (ca 0, 60, .inl (fun k => nI (g k))))] H := hP
  have hD := zDto (ws := [(o 0, .inr (7, [.int 2, f1, f2, f3, .ref (o 3), .int (nI n), f6, f7, f8, f9, f10])), (o 3, .inl (ca 0, 60, .inl (fun k => nI (g k))))]) hN hA rfl
  exact zw_i hx hb hr hlk hP hS ⟨by rfl, by rfl⟩ dX7_append_36
set_option maxHeartbeats 4000000 in
set_option maxRecDepth 100000 in
theorem c_X7_append_C (l : Launch) (D : va_G) (ca : Nat → ClassId) (o : Nat → Nat) (f1 f2 f3 f6 f7 f8 f9 f10 : Value) (thr : Int32) (n : Nat) (g : Nat → Nat) (h0 : n ≤ 60) (c0 : Nat) (hk : 33 ≤ c0) (hk2 : c0 ≤ 126) (hn6 : ¬ n = 60) (hN : [o 0, o 3].Nodup) : zMw l yX7_append cX7_append 2 (some .int) 1 22 D ca [(o 0, .inr (7, [.int thr, f1, f2, f3, .ref (o 3), .int (nI n), f6, f7, f8, f9, f10])), (o 3, .inl (ca 0, 60, .inl (fun k => nI (g k))))] ([(o 0, .inr (7, [.int 0, f1, f2, f3, .ref (o 3), .int (nI (n + 1)), f6, f7, f8, f9, f10])), (o 3, .inl (ca 0, 60, .inl (fun k => nI ((va_up g n c0) k))))]) [.ref (o 0), .int (nI c0)] (some (.int (nI (n + 1)))) := by
  refine zMw_of (own := RX7) (by decide) rfl (Nat.le_of_ble_eq_true rfl) ?_
  intro p e s m args below meth c ls S hr hlk hP hK hl hS
  have hP : va_P D vwCl [(o 0, .inr (7, [.int thr, f1, f2, f3, .ref (o 3), .int (nI n), f6, f7, f8, f9, f10])), (o 3, .inl (ca 0, 60, .inl (fun k => nI (g k))))] s.heap := hP
  have hS : va_S (zA [o 0, o 3]) s.heap s.heap [] := hS
  have hA : ∀ q ∈ [o 0, o 3], zA [o 0, o 3] q := fun _ h => h
  have hD := zDto (ws := [(o 0, .inr (7, [.int thr, f1, f2, f3, .ref (o 3), .int (nI n), f6, f7, f8, f9, f10])), (o 3, .inl (ca 0, 60, .inl (fun k => nI (g k))))]) hN hA rfl
  have hx := S.1
  have hb := S.2.1
  have hl : lv_has ls 2 [(0, .ref (o 0)), (1, .int (nI c0))] := hl
  have hin : rIn (nI c0) 33 126 = true := rIn_t (a := 33) (b := 126) (by omega) (by omega) (by decide)
  refine lv_aload_n hx hb dX7_append_0 rfl (lv_at hl 0 rfl) ?_
  refine lv_iconst (v := 0) hx hb dX7_append_1 (by decide) ?_
  refine z_put S in_lay_X7 tyX7_ok nmX7 hK hP hD hS rfl 0 rfl 0 (by decide) fl_X7_22 rfl rfl rfl rfl (Nat.le_of_ble_eq_true rfl) dX7_append_2 (fun H locs hP hS => ?_)
  have hP : va_P D vwCl [(o 0, .inr (7, [.int 0, f1, f2, f3, .ref (o 3), .int (nI n), f6, f7, f8, f9, f10])), (o 3, .inl (ca 0, 60, .inl (fun k => nI (g k))))] H := hP
  have hD := zDto (ws := [(o 0, .inr (7, [.int 0, f1, f2, f3, .ref (o 3), .int (nI n), f6, f7, f8, f9, f10])), (o 3, .inl (ca 0, 60, .inl (fun k => nI (g k))))]) hN hA rfl
  refine lv_iload_n hx hb dX7_append_5 rfl (lv_at hl 1 rfl) ?_
  refine lv_bipush (v := 33) hx hb dX7_append_6 (by decide) ?_
  refine lv_bipush (v := 126) hx hb dX7_append_8 (by decide) ?_
  refine zcrS (As := [.int (nI c0), .int 33, .int 126]) (rest := []) S (c_X7_in l D ca (nI c0) 33 126) ml_X7_26 zy_X7_in st_X7_in ⟨Nat.le_of_ble_eq_true rfl, Nat.le_of_ble_eq_true rfl⟩ hK hP [] rfl rfl hl.1 rfl (Nat.le_of_ble_eq_true rfl) ⟨Nat.zero_le _, Nat.zero_le _⟩ dX7_append_10 ?_
  refine zz_ne (tgt := 22) hx hb dX7_append_13 (by decide) (fun _ => ?_) (fun h => False.elim (by revert h; intro h; rw [hin] at h; exact absurd h (by decide)))
  refine lv_aload_n hx hb dX7_append_22 rfl (lv_at hl 0 rfl) ?_
  refine z_get S in_lay_X7 hK hP rfl 0 rfl 5 (by decide) fl_X7_129 rfl rfl dX7_append_23 ?_
  refine lv_bipush (v := 60) hx hb dX7_append_26 (by decide) ?_
  refine zn_ne hx hb (x := n) (y := 60) (by omega) (by omega) (tgt := 37) dX7_append_28 (by decide) (fun _ => ?_) (fun h => absurd h (by omega))
  refine lv_aload_n hx hb dX7_append_37 rfl (lv_at hl 0 rfl) ?_
  refine z_get S in_lay_X7 hK hP rfl 0 rfl 4 (by decide) fl_X7_16 rfl rfl dX7_append_38 ?_
  refine lv_aload_n hx hb dX7_append_41 rfl (lv_at hl 0 rfl) ?_
  refine z_get S in_lay_X7 hK hP rfl 0 rfl 5 (by decide) fl_X7_129 rfl rfl dX7_append_42 ?_
  refine lv_iload_n hx hb dX7_append_45 rfl (lv_at hl 1 rfl) ?_
  refine z_iast S hK hP hD hS 1 rfl (j := n) (by omega) (by decide) dX7_append_46 (fun H locs hP hS => ?_)
  have hP : va_P D vwCl [(o 0, .inr (7, [.int 0, f1, f2, f3, .ref (o 3), .int (nI n), f6, f7, f8, f9, f10])), (o 3, .inl (ca 0, 60, .inl (upd (fun k => nI (g k)) n (nI c0))))] H := hP
  have hD := zDto (ws := [(o 0, .inr (7, [.int 0, f1, f2, f3, .ref (o 3), .int (nI n), f6, f7, f8, f9, f10])), (o 3, .inl (ca 0, 60, .inl (upd (fun k => nI (g k)) n (nI c0))))]) hN hA rfl
  refine lv_aload_n hx hb dX7_append_47 rfl (lv_at hl 0 rfl) ?_
  refine lv_dup hx hb dX7_append_48 rfl ?_
  refine z_get S in_lay_X7 hK hP rfl 0 rfl 5 (by decide) fl_X7_129 rfl rfl dX7_append_49 ?_
  refine lv_iconst (v := 1) hx hb dX7_append_52 (by decide) ?_
  refine zn_add hx hb (x := n) (y := 1) (z := n + 1) (by omega) dX7_append_53 ?_
  refine z_put S in_lay_X7 tyX7_ok nmX7 hK hP hD hS rfl 0 rfl 5 (by decide) fl_X7_129 rfl rfl rfl rfl (Nat.le_of_ble_eq_true rfl) dX7_append_54 (fun H locs hP hS => ?_)
  have hP : va_P D vwCl [(o 0, .inr (7, [.int 0, f1, f2, f3, .ref (o 3), .int (nI (n + 1)), f6, f7, f8, f9, f10])), (o 3, .inl (ca 0, 60, .inl (upd (fun k => nI (g k)) n (nI c0))))] H := hP
  have hD := zDto (ws := [(o 0, .inr (7, [.int 0, f1, f2, f3, .ref (o 3), .int (nI (n + 1)), f6, f7, f8, f9, f10])), (o 3, .inl (ca 0, 60, .inl (upd (fun k => nI (g k)) n (nI c0))))]) hN hA rfl
  refine lv_aload_n hx hb dX7_append_57 rfl (lv_at hl 0 rfl) ?_
  refine z_get S in_lay_X7 hK hP rfl 0 rfl 5 (by decide) fl_X7_129 rfl rfl dX7_append_58 ?_
  exact zw_i hx hb hr hlk hP hS ⟨by rfl, by rw [zupd_nI g n c0] <;> rfl⟩ dX7_append_61
set_option maxHeartbeats 4000000 in
set_option maxRecDepth 100000 in
theorem c_X7_clearBuffer (l : Launch) (D : va_G) (ca : Nat → ClassId) (o : Nat → Nat) (f1 f2 f3 f4 f6 f7 f8 f9 f10 : Value) (thr : Int32) (n : Nat) (h0 : n ≤ 60)  (hN : [o 0].Nodup) : zMw l yX7_clearBuffer cX7_clearBuffer 2 (some .int) 0 0 D ca [(o 0, .inr (7, [.int thr, f1, f2, f3, f4, .int (nI n), f6, f7, f8, f9, f10]))] ([(o 0, .inr (7, [.int 0, f1, f2, f3, f4, .int 0, f6, f7, f8, f9, f10]))]) [.ref (o 0)] (some (.int (nI n))) := by
  refine zMw_of (own := RX7) (by decide) rfl (Nat.le_of_ble_eq_true rfl) ?_
  intro p e s m args below meth c ls S hr hlk hP hK hl hS
  have hP : va_P D vwCl [(o 0, .inr (7, [.int thr, f1, f2, f3, f4, .int (nI n), f6, f7, f8, f9, f10]))] s.heap := hP
  have hS : va_S (zA [o 0]) s.heap s.heap [] := hS
  have hA : ∀ q ∈ [o 0], zA [o 0] q := fun _ h => h
  have hD := zDto (ws := [(o 0, .inr (7, [.int thr, f1, f2, f3, f4, .int (nI n), f6, f7, f8, f9, f10]))]) hN hA rfl
  have hx := S.1
  have hb := S.2.1
  have hl : lv_has ls 2 [(0, .ref (o 0))] := hl
  refine lv_aload_n hx hb dX7_clearBuffer_0 rfl (lv_at hl 0 rfl) ?_
  refine lv_iconst (v := 0) hx hb dX7_clearBuffer_1 (by decide) ?_
  refine z_put S in_lay_X7 tyX7_ok nmX7 hK hP hD hS rfl 0 rfl 0 (by decide) fl_X7_22 rfl rfl rfl rfl (Nat.le_of_ble_eq_true rfl) dX7_clearBuffer_2 (fun H locs hP hS => ?_)
  have hP : va_P D vwCl [(o 0, .inr (7, [.int 0, f1, f2, f3, f4, .int (nI n), f6, f7, f8, f9, f10]))] H := hP
  have hD := zDto (ws := [(o 0, .inr (7, [.int 0, f1, f2, f3, f4, .int (nI n), f6, f7, f8, f9, f10]))]) hN hA rfl
  refine lv_aload_n hx hb dX7_clearBuffer_5 rfl (lv_at hl 0 rfl) ?_
  refine z_get S in_lay_X7 hK hP rfl 0 rfl 5 (by decide) fl_X7_129 rfl rfl dX7_clearBuffer_6 ?_
  refine lv_istore_n (lv' := [(1, .int (nI n)), (0, .ref (o 0))]) hx hb dX7_clearBuffer_9 rfl hl (by decide) rfl (fun ls hl => ?_)
  refine lv_aload_n hx hb dX7_clearBuffer_10 rfl (lv_at hl 1 rfl) ?_
  refine lv_iconst (v := 0) hx hb dX7_clearBuffer_11 (by decide) ?_
  refine z_put S in_lay_X7 tyX7_ok nmX7 hK hP hD hS rfl 0 rfl 5 (by decide) fl_X7_129 rfl rfl rfl rfl (Nat.le_of_ble_eq_true rfl) dX7_clearBuffer_12 (fun H locs hP hS => ?_)
  have hP : va_P D vwCl [(o 0, .inr (7, [.int 0, f1, f2, f3, f4, .int 0, f6, f7, f8, f9, f10]))] H := hP
  have hD := zDto (ws := [(o 0, .inr (7, [.int 0, f1, f2, f3, f4, .int 0, f6, f7, f8, f9, f10]))]) hN hA rfl
  refine lv_iload_n hx hb dX7_clearBuffer_15 rfl (lv_at hl 0 rfl) ?_
  exact zw_i hx hb hr hlk hP hS ⟨by rfl, by rfl⟩ dX7_clearBuffer_16
set_option maxHeartbeats 4000000 in
set_option maxRecDepth 100000 in
theorem c_X7_undo_A (l : Launch) (D : va_G) (ca : Nat → ClassId) (o : Nat → Nat) (f1 f2 f4 f5 f6 f7 f8 f9 f10 : Value) (thr : Int32) (mm : Nat) (h0 : mm ≤ 6) (hm0 : mm = 0) (hN : [o 0].Nodup) : zMw l yX7_undo cX7_undo 2 (some .int) 1 21 D ca [(o 0, .inr (7, [.int thr, f1, f2, .int (nI mm), f4, f5, f6, f7, f8, f9, f10]))] ([(o 0, .inr (7, [.int 1, f1, f2, .int (nI mm), f4, f5, f6, f7, f8, f9, f10]))]) [.ref (o 0)] (some (.int 0)) := by
  refine zMw_of (own := RX7) (by decide) rfl (Nat.le_of_ble_eq_true rfl) ?_
  intro p e s m args below meth c ls S hr hlk hP hK hl hS
  have hP : va_P D vwCl [(o 0, .inr (7, [.int thr, f1, f2, .int (nI mm), f4, f5, f6, f7, f8, f9, f10]))] s.heap := hP
  have hS : va_S (zA [o 0]) s.heap s.heap [] := hS
  have hA : ∀ q ∈ [o 0], zA [o 0] q := fun _ h => h
  have hD := zDto (ws := [(o 0, .inr (7, [.int thr, f1, f2, .int (nI mm), f4, f5, f6, f7, f8, f9, f10]))]) hN hA rfl
  have hx := S.1
  have hb := S.2.1
  have hl : lv_has ls 2 [(0, .ref (o 0))] := hl
  refine lv_aload_n hx hb dX7_undo_0 rfl (lv_at hl 0 rfl) ?_
  refine lv_iconst (v := 0) hx hb dX7_undo_1 (by decide) ?_
  refine z_put S in_lay_X7 tyX7_ok nmX7 hK hP hD hS rfl 0 rfl 0 (by decide) fl_X7_22 rfl rfl rfl rfl (Nat.le_of_ble_eq_true rfl) dX7_undo_2 (fun H locs hP hS => ?_)
  have hP : va_P D vwCl [(o 0, .inr (7, [.int 0, f1, f2, .int (nI mm), f4, f5, f6, f7, f8, f9, f10]))] H := hP
  have hD := zDto (ws := [(o 0, .inr (7, [.int 0, f1, f2, .int (nI mm), f4, f5, f6, f7, f8, f9, f10]))]) hN hA rfl
  refine lv_aload_n hx hb dX7_undo_5 rfl (lv_at hl 0 rfl) ?_
  refine z_get S in_lay_X7 hK hP rfl 0 rfl 3 (by decide) fl_X7_30 rfl rfl dX7_undo_6 ?_
  refine zn_ne0 hx hb (x := mm) (by omega) (tgt := 18) dX7_undo_9 (by decide) (fun h => absurd h (by omega)) (fun _ => ?_)
  refine lv_aload_n hx hb dX7_undo_12 rfl (lv_at hl 0 rfl) ?_
  refine lv_iconst (v := 1) hx hb dX7_undo_13 (by decide) ?_
  refine zcw (As := [.int 1]) (rest := []) (st1 := [.int 0]) (q0 := 0) (lw := [o 0]) S (c_X7_fails l D ca o f1 f2 (.int (nI mm)) f4 f5 f6 f7 f8 f9 f10 0  1 (znd_pick hN [0] rfl rfl)) ml_X7_67 zy_X7_fails im_X7_fails se_X7_fails ⟨Nat.le_of_ble_eq_true rfl, Nat.le_of_ble_eq_true rfl⟩ hK hP hD hS [0] rfl rfl rfl rfl rfl rfl rfl hl.1 rfl rfl (Nat.le_of_ble_eq_true rfl) ⟨Nat.zero_le _, Nat.zero_le _⟩ dX7_undo_14 (fun H locs hP hS => ?_)
  have hP : va_P D vwCl [(o 0, .inr (7, [.int 1, f1, f2, .int (nI mm), f4, f5, f6, f7, f8, f9, f10]))] H := hP
  have hD := zDto (ws := [(o 0, .inr (7, [.int 1, f1, f2, .int (nI mm), f4, f5, f6, f7, f8, f9, f10]))]) hN hA rfl
  exact zw_i hx hb hr hlk hP hS ⟨by rfl, by rfl⟩ dX7_undo_17
set_option maxHeartbeats 4000000 in
set_option maxRecDepth 100000 in
theorem c_X7_undo_B (l : Launch) (D : va_G) (ca : Nat → ClassId) (o : Nat → Nat) (f4 f5 f6 f7 f8 f9 f10 : Value) (thr : Int32) (mm : Nat) (sf : Nat → Int32) (sv : Nat → Int32) (h0 : mm ≤ 6) (hm0 : ¬ mm = 0) (hN : [o 0, o 1, o 2].Nodup) : zMw l yX7_undo cX7_undo 2 (some .int) 0 0 D ca [(o 0, .inr (7, [.int thr, .ref (o 1), .ref (o 2), .int (nI mm), f4, f5, f6, f7, f8, f9, f10])), (o 1, .inl (ca 0, 99, .inl sf)), (o 2, .inl (ca 0, 594, .inl sv))] ([(o 0, .inr (7, [.int 0, .ref (o 1), .ref (o 2), .int (nI (mm - 1)), f4, f5, f6, f7, f8, f9, f10])), (o 1, .inl (ca 0, 99, .inl (rUd sf sv (99 * (mm - 1)) 99))), (o 2, .inl (ca 0, 594, .inl sv))]) [.ref (o 0)] (some (.int (nI (mm - 1)))) := by
  refine zMw_of (own := RX7) (by decide) rfl (Nat.le_of_ble_eq_true rfl) ?_
  intro p e s m args below meth c ls S hr hlk hP hK hl hS
  have hP : va_P D vwCl [(o 0, .inr (7, [.int thr, .ref (o 1), .ref (o 2), .int (nI mm), f4, f5, f6, f7, f8, f9, f10])), (o 1, .inl (ca 0, 99, .inl sf)), (o 2, .inl (ca 0, 594, .inl sv))] s.heap := hP
  have hS : va_S (zA [o 0, o 1, o 2]) s.heap s.heap [] := hS
  have hA : ∀ q ∈ [o 0, o 1, o 2], zA [o 0, o 1, o 2] q := fun _ h => h
  have hD := zDto (ws := [(o 0, .inr (7, [.int thr, .ref (o 1), .ref (o 2), .int (nI mm), f4, f5, f6, f7, f8, f9, f10])), (o 1, .inl (ca 0, 99, .inl sf)), (o 2, .inl (ca 0, 594, .inl sv))]) hN hA rfl
  have hx := S.1
  have hb := S.2.1
  have hl : lv_has ls 2 [(0, .ref (o 0))] := hl
  refine lv_aload_n hx hb dX7_undo_0 rfl (lv_at hl 0 rfl) ?_
  refine lv_iconst (v := 0) hx hb dX7_undo_1 (by decide) ?_
  refine z_put S in_lay_X7 tyX7_ok nmX7 hK hP hD hS rfl 0 rfl 0 (by decide) fl_X7_22 rfl rfl rfl rfl (Nat.le_of_ble_eq_true rfl) dX7_undo_2 (fun H locs hP hS => ?_)
  have hP : va_P D vwCl [(o 0, .inr (7, [.int 0, .ref (o 1), .ref (o 2), .int (nI mm), f4, f5, f6, f7, f8, f9, f10])), (o 1, .inl (ca 0, 99, .inl sf)), (o 2, .inl (ca 0, 594, .inl sv))] H := hP
  have hD := zDto (ws := [(o 0, .inr (7, [.int 0, .ref (o 1), .ref (o 2), .int (nI mm), f4, f5, f6, f7, f8, f9, f10])), (o 1, .inl (ca 0, 99, .inl sf)), (o 2, .inl (ca 0, 594, .inl sv))]) hN hA rfl
  refine lv_aload_n hx hb dX7_undo_5 rfl (lv_at hl 0 rfl) ?_
  refine z_get S in_lay_X7 hK hP rfl 0 rfl 3 (by decide) fl_X7_30 rfl rfl dX7_undo_6 ?_
  refine zn_ne0 hx hb (x := mm) (by omega) (tgt := 18) dX7_undo_9 (by decide) (fun _ => ?_) (fun h => absurd h (by omega))
  refine lv_aload_n hx hb dX7_undo_18 rfl (lv_at hl 0 rfl) ?_
  refine lv_dup hx hb dX7_undo_19 rfl ?_
  refine z_get S in_lay_X7 hK hP rfl 0 rfl 3 (by decide) fl_X7_30 rfl rfl dX7_undo_20 ?_
  refine lv_iconst (v := 1) hx hb dX7_undo_23 (by decide) ?_
  refine zn_sub hx hb (x := mm) (y := 1) (z := mm - 1) (by omega) dX7_undo_24 ?_
  refine z_put S in_lay_X7 tyX7_ok nmX7 hK hP hD hS rfl 0 rfl 3 (by decide) fl_X7_30 rfl rfl rfl rfl (Nat.le_of_ble_eq_true rfl) dX7_undo_25 (fun H locs hP hS => ?_)
  have hP : va_P D vwCl [(o 0, .inr (7, [.int 0, .ref (o 1), .ref (o 2), .int (nI (mm - 1)), f4, f5, f6, f7, f8, f9, f10])), (o 1, .inl (ca 0, 99, .inl sf)), (o 2, .inl (ca 0, 594, .inl sv))] H := hP
  have hD := zDto (ws := [(o 0, .inr (7, [.int 0, .ref (o 1), .ref (o 2), .int (nI (mm - 1)), f4, f5, f6, f7, f8, f9, f10])), (o 1, .inl (ca 0, 99, .inl sf)), (o 2, .inl (ca 0, 594, .inl sv))]) hN hA rfl
  refine lv_iconst (v := 0) hx hb dX7_undo_28 (by decide) ?_
  refine lv_istore_n (lv' := [(1, .int 0), (0, .ref (o 0))]) hx hb dX7_undo_29 rfl hl (by decide) rfl (fun ls hl => ?_)
  have loop_0 : ∀ (f : Nat) (k : Nat) (uf : Nat → Int32) (H : Heap) (locs : List Loc) (ls : Array Slot), k + f = 99 → uf = rUd sf sv (99 * (mm - 1)) k → lv_has ls 2 [(0, .ref (o 0)), (1, .int (nI k))] → va_P D vwCl [(o 0, .inr (7, [.int 0, .ref (o 1), .ref (o 2), .int (nI (mm - 1)), f4, f5, f6, f7, f8, f9, f10])), (o 1, .inl (ca 0, 99, .inl uf)), (o 2, .inl (ca 0, 594, .inl sv))] H → va_S (zA [o 0, o 1, o 2]) s.heap H locs → W p l e { frames := 0, cells := 0, slots := 0, locals := 0 } s m args below meth c H locs 0 0 (MQ below (zQw D [o 0, o 1, o 2] ([(o 0, .inr (7, [.int 0, .ref (o 1), .ref (o 2), .int (nI (mm - 1)), f4, f5, f6, f7, f8, f9, f10])), (o 1, .inl (ca 0, 99, .inl (rUd sf sv (99 * (mm - 1)) 99))), (o 2, .inl (ca 0, 594, .inl sv))]) (some (.int (nI (mm - 1))))) args s 0 0 (zA [o 0, o 1, o 2])) (F0 m 30 ls []) := by
    intro f
    induction f with
    | zero =>
      intro k uf H locs ls j1 j2 hl hP hS
      have hD := zDto (ws := [(o 0, .inr (7, [.int 0, .ref (o 1), .ref (o 2), .int (nI (mm - 1)), f4, f5, f6, f7, f8, f9, f10])), (o 1, .inl (ca 0, 99, .inl uf)), (o 2, .inl (ca 0, 594, .inl sv))]) hN hA rfl
      refine lv_iload_n hx hb dX7_undo_30 rfl (lv_at hl 1 rfl) ?_
      refine lv_bipush (v := 99) hx hb dX7_undo_31 (by decide) ?_
      refine zn_ge hx hb (x := k) (y := 99) (by omega) (by omega) (tgt := 62) dX7_undo_33 (by decide) (fun c_33_2 => ?_) (fun h => False.elim (by omega))
      refine lv_aload_n hx hb dX7_undo_62 rfl (lv_at hl 0 rfl) ?_
      refine z_get S in_lay_X7 hK hP rfl 0 rfl 3 (by decide) fl_X7_30 rfl rfl dX7_undo_63 ?_
      exact zw_i hx hb hr hlk hP hS ⟨by rfl, by rw [j2, show k = 99 by omega] <;> rfl⟩ dX7_undo_66
    | succ f ih =>
      intro k uf H locs ls j1 j2 hl hP hS
      have hD := zDto (ws := [(o 0, .inr (7, [.int 0, .ref (o 1), .ref (o 2), .int (nI (mm - 1)), f4, f5, f6, f7, f8, f9, f10])), (o 1, .inl (ca 0, 99, .inl uf)), (o 2, .inl (ca 0, 594, .inl sv))]) hN hA rfl
      refine lv_iload_n hx hb dX7_undo_30 rfl (lv_at hl 1 rfl) ?_
      refine lv_bipush (v := 99) hx hb dX7_undo_31 (by decide) ?_
      refine zn_ge hx hb (x := k) (y := 99) (by omega) (by omega) (tgt := 62) dX7_undo_33 (by decide) (fun h => False.elim (by omega)) (fun c_33_3 => ?_)
      refine lv_aload_n hx hb dX7_undo_36 rfl (lv_at hl 0 rfl) ?_
      refine z_get S in_lay_X7 hK hP rfl 0 rfl 1 (by decide) fl_X7_7 rfl rfl dX7_undo_37 ?_
      refine lv_iload_n hx hb dX7_undo_40 rfl (lv_at hl 1 rfl) ?_
      refine lv_aload_n hx hb dX7_undo_41 rfl (lv_at hl 0 rfl) ?_
      refine z_get S in_lay_X7 hK hP rfl 0 rfl 2 (by decide) fl_X7_13 rfl rfl dX7_undo_42 ?_
      refine lv_bipush (v := 99) hx hb dX7_undo_45 (by decide) ?_
      refine lv_aload_n hx hb dX7_undo_47 rfl (lv_at hl 0 rfl) ?_
      refine z_get S in_lay_X7 hK hP rfl 0 rfl 3 (by decide) fl_X7_30 rfl rfl dX7_undo_48 ?_
      refine zn_mul hx hb (x := 99) (y := mm - 1) (z := 99 * (mm - 1)) (by first | rfl | omega) dX7_undo_51 ?_
      refine lv_iload_n hx hb dX7_undo_52 rfl (lv_at hl 1 rfl) ?_
      refine zn_add hx hb (x := 99 * (mm - 1)) (y := k) (z := (99 * (mm - 1)) + k) (by omega) dX7_undo_53 ?_
      refine z_iald S hK hP 2 rfl (j := (99 * (mm - 1)) + k) (by omega) (by decide) dX7_undo_54 ?_
      refine z_iast S hK hP hD hS 1 rfl (j := k) (by omega) (by decide) dX7_undo_55 (fun H locs hP hS => ?_)
      have hP : va_P D vwCl [(o 0, .inr (7, [.int 0, .ref (o 1), .ref (o 2), .int (nI (mm - 1)), f4, f5, f6, f7, f8, f9, f10])), (o 1, .inl (ca 0, 99, .inl (upd uf k (sv ((99 * (mm - 1)) + k))))), (o 2, .inl (ca 0, 594, .inl sv))] H := hP
      have hD := zDto (ws := [(o 0, .inr (7, [.int 0, .ref (o 1), .ref (o 2), .int (nI (mm - 1)), f4, f5, f6, f7, f8, f9, f10])), (o 1, .inl (ca 0, 99, .inl (upd uf k (sv ((99 * (mm - 1)) + k))))), (o 2, .inl (ca 0, 594, .inl sv))]) hN hA rfl
      refine lv_iinc (v := nI (k + 1)) (lv' := [(1, .int (nI (k + 1))), (0, .ref (o 0))]) hx hb dX7_undo_56 hl (k := 1) rfl (zinc k 1) (by decide) rfl (fun ls hl => ?_)
      refine lv_goto (tgt := 30) hx hb dX7_undo_59 (by decide) ?_
      exact ih (k + 1) (upd uf k (sv ((99 * (mm - 1)) + k))) _ _ ls (by omega) (by rw [j2]; exact rUd_s _ _ _ _) (lv_sub hl [1, 0] rfl) hP hS
  exact loop_0 99 0 sf _ _ ls (by omega) (by exact rUd_0 _ _ _) (lv_sub hl [1, 0] rfl) hP hS
set_option maxHeartbeats 4000000 in
set_option maxRecDepth 100000 in
theorem c_X7_play_A (l : Launch) (D : va_G) (ca : Nat → ClassId) (o : Nat → Nat) (f1 f2 f3 f10 : Value) (thr : Int32) (n : Nat) (i : Nat) (wl : Bool) (rm : Nat) (g : Nat → Nat) (rd : Nat → Int32) (h0 : n ≤ 60) (h1 : ∀ k, g k < 128) (hw : (rRa g n rd).2.1 = false) (hN : [o 0, o 3, o 4].Nodup) : zMw l yX7_play cX7_play 2 (some .int) 5 108 D ca [(o 0, .inr (7, [.int thr, f1, f2, f3, .ref (o 3), .int (nI n), .int (nI i), .int (zb wl), .ref (o 4), .int (nI rm), f10])), (o 3, .inl (ca 0, 60, .inl (fun k => nI (g k)))), (o 4, .inl (ca 0, 93, .inl rd))] ([(o 0, .inr (7, [.int 1, f1, f2, f3, .ref (o 3), .int (nI n), .int (nI ((rRa g n rd).1)), .int (zb ((rRa g n rd).2.1)), .ref (o 4), .int (nI ((rRa g n rd).2.2.2)), f10])), (o 3, .inl (ca 0, 60, .inl (fun k => nI (g k)))), (o 4, .inl (ca 0, 93, .inl ((rRa g n rd).2.2.1)))]) [.ref (o 0)] (some (.int 0)) := by
  refine zMw_of (own := RX7) (by decide) rfl (Nat.le_of_ble_eq_true rfl) ?_
  intro p e s m args below meth c ls S hr hlk hP hK hl hS
  have hP : va_P D vwCl [(o 0, .inr (7, [.int thr, f1, f2, f3, .ref (o 3), .int (nI n), .int (nI i), .int (zb wl), .ref (o 4), .int (nI rm), f10])), (o 3, .inl (ca 0, 60, .inl (fun k => nI (g k)))), (o 4, .inl (ca 0, 93, .inl rd))] s.heap := hP
  have hS : va_S (zA [o 0, o 3, o 4]) s.heap s.heap [] := hS
  have hA : ∀ q ∈ [o 0, o 3, o 4], zA [o 0, o 3, o 4] q := fun _ h => h
  have hD := zDto (ws := [(o 0, .inr (7, [.int thr, f1, f2, f3, .ref (o 3), .int (nI n), .int (nI i), .int (zb wl), .ref (o 4), .int (nI rm), f10])), (o 3, .inl (ca 0, 60, .inl (fun k => nI (g k)))), (o 4, .inl (ca 0, 93, .inl rd))]) hN hA rfl
  have hx := S.1
  have hb := S.2.1
  have hl : lv_has ls 2 [(0, .ref (o 0))] := hl
  refine lv_aload_n hx hb dX7_play_0 rfl (lv_at hl 0 rfl) ?_
  refine lv_iconst (v := 0) hx hb dX7_play_1 (by decide) ?_
  refine z_put S in_lay_X7 tyX7_ok nmX7 hK hP hD hS rfl 0 rfl 0 (by decide) fl_X7_22 rfl rfl rfl rfl (Nat.le_of_ble_eq_true rfl) dX7_play_2 (fun H locs hP hS => ?_)
  have hP : va_P D vwCl [(o 0, .inr (7, [.int 0, f1, f2, f3, .ref (o 3), .int (nI n), .int (nI i), .int (zb wl), .ref (o 4), .int (nI rm), f10])), (o 3, .inl (ca 0, 60, .inl (fun k => nI (g k)))), (o 4, .inl (ca 0, 93, .inl rd))] H := hP
  have hD := zDto (ws := [(o 0, .inr (7, [.int 0, f1, f2, f3, .ref (o 3), .int (nI n), .int (nI i), .int (zb wl), .ref (o 4), .int (nI rm), f10])), (o 3, .inl (ca 0, 60, .inl (fun k => nI (g k)))), (o 4, .inl (ca 0, 93, .inl rd))]) hN hA rfl
  refine lv_aload_n hx hb dX7_play_5 rfl (lv_at hl 0 rfl) ?_
  refine zcw (As := []) (rest := []) (st1 := []) (q0 := 0) (lw := [o 0, o 3, o 4]) S (c_X7_readsAll l D ca o (.int 0) f1 f2 f3 f10 n i wl rm g rd (by first | assumption | omega) (by first | assumption | omega)  (znd_pick hN [0, 1, 2] rfl rfl)) ml_X7_154 zy_X7_readsAll im_X7_readsAll se_X7_readsAll ⟨Nat.le_of_ble_eq_true rfl, Nat.le_of_ble_eq_true rfl⟩ hK hP hD hS [0, 1, 2] rfl rfl rfl rfl rfl rfl rfl hl.1 rfl rfl (Nat.le_of_ble_eq_true rfl) ⟨Nat.zero_le _, Nat.zero_le _⟩ dX7_play_6 (fun H locs hP hS => ?_)
  have hP : va_P D vwCl [(o 0, .inr (7, [.int 0, f1, f2, f3, .ref (o 3), .int (nI n), .int (nI ((rRa g n rd).1)), .int (zb ((rRa g n rd).2.1)), .ref (o 4), .int (nI ((rRa g n rd).2.2.2)), f10])), (o 3, .inl (ca 0, 60, .inl (fun k => nI (g k)))), (o 4, .inl (ca 0, 93, .inl ((rRa g n rd).2.2.1)))] H := hP
  have hD := zDto (ws := [(o 0, .inr (7, [.int 0, f1, f2, f3, .ref (o 3), .int (nI n), .int (nI ((rRa g n rd).1)), .int (zb ((rRa g n rd).2.1)), .ref (o 4), .int (nI ((rRa g n rd).2.2.2)), f10])), (o 3, .inl (ca 0, 60, .inl (fun k => nI (g k)))), (o 4, .inl (ca 0, 93, .inl ((rRa g n rd).2.2.1)))]) hN hA rfl
  have hral := rRa_le (g := g) (n := n) (rd := rd)
  refine lv_aload_n hx hb dX7_play_9 rfl (lv_at hl 0 rfl) ?_
  refine z_get S in_lay_X7 hK hP rfl 0 rfl 7 (by decide) fl_X7_135 rfl rfl dX7_play_10 ?_
  refine zz_ne (tgt := 22) hx hb dX7_play_13 (by decide) (fun h => False.elim (by revert h; intro h; rw [hw] at h; exact absurd h (by decide))) (fun _ => ?_)
  refine lv_aload_n hx hb dX7_play_16 rfl (lv_at hl 0 rfl) ?_
  refine lv_iconst (v := 1) hx hb dX7_play_17 (by decide) ?_
  refine zcw (As := [.int 1]) (rest := []) (st1 := [.int 0]) (q0 := 0) (lw := [o 0]) S (c_X7_fails l D ca o f1 f2 f3 (.ref (o 3)) (.int (nI n)) (.int (nI ((rRa g n rd).1))) (.int (zb ((rRa g n rd).2.1))) (.ref (o 4)) (.int (nI ((rRa g n rd).2.2.2))) f10 0  1 (znd_pick hN [0] rfl rfl)) ml_X7_67 zy_X7_fails im_X7_fails se_X7_fails ⟨Nat.le_of_ble_eq_true rfl, Nat.le_of_ble_eq_true rfl⟩ hK hP hD hS [0] rfl rfl rfl rfl rfl rfl rfl hl.1 rfl rfl (Nat.le_of_ble_eq_true rfl) ⟨Nat.zero_le _, Nat.zero_le _⟩ dX7_play_18 (fun H locs hP hS => ?_)
  have hP : va_P D vwCl [(o 0, .inr (7, [.int 1, f1, f2, f3, .ref (o 3), .int (nI n), .int (nI ((rRa g n rd).1)), .int (zb ((rRa g n rd).2.1)), .ref (o 4), .int (nI ((rRa g n rd).2.2.2)), f10])), (o 3, .inl (ca 0, 60, .inl (fun k => nI (g k)))), (o 4, .inl (ca 0, 93, .inl ((rRa g n rd).2.2.1)))] H := hP
  have hD := zDto (ws := [(o 0, .inr (7, [.int 1, f1, f2, f3, .ref (o 3), .int (nI n), .int (nI ((rRa g n rd).1)), .int (zb ((rRa g n rd).2.1)), .ref (o 4), .int (nI ((rRa g n rd).2.2.2)), f10])), (o 3, .inl (ca 0, 60, .inl (fun k => nI (g k)))), (o 4, .inl (ca 0, 93, .inl ((rRa g n rd).2.2.1)))]) hN hA rfl
  exact zw_i hx hb hr hlk hP hS ⟨by rfl, by rfl⟩ dX7_play_21
set_option maxHeartbeats 4000000 in
set_option maxRecDepth 100000 in
theorem c_X7_play_B (l : Launch) (D : va_G) (ca : Nat → ClassId) (o : Nat → Nat) (f10 : Value) (thr : Int32) (mm : Nat) (n : Nat) (i : Nat) (wl : Bool) (rm : Nat) (sf : Nat → Int32) (sv : Nat → Int32) (g : Nat → Nat) (rd : Nat → Int32) (h0 : mm ≤ 6) (h1 : n ≤ 60) (h2 : ∀ k, g k < 128) (hw : (rRa g n rd).2.1 = true) (hrm : (rRa g n rd).2.2.2 ≤ 30) (qf pf df : Nat → Nat) (hwf : ∀ j, j < (rRa g n rd).2.2.2 → (rRa g n rd).2.2.1 (3 * j) = nI (qf j) ∧ (rRa g n rd).2.2.1 (3 * j + 1) = nI (pf j) ∧ (rRa g n rd).2.2.1 (3 * j + 2) = nI (df j) ∧ pf j < 24 ∧ df j < 10 ∧ (qf j = 43 ∨ qf j = 45 ∨ qf j = 61 ∨ (qf j = 126 ∧ pf j < 6))) (hN : [o 0, o 1, o 2, o 3, o 4].Nodup) : zMw l yX7_play cX7_play 2 (some .int) 6 136 D ca [(o 0, .inr (7, [.int thr, .ref (o 1), .ref (o 2), .int (nI mm), .ref (o 3), .int (nI n), .int (nI i), .int (zb wl), .ref (o 4), .int (nI rm), f10])), (o 1, .inl (ca 0, 99, .inl sf)), (o 2, .inl (ca 0, 594, .inl sv)), (o 3, .inl (ca 0, 60, .inl (fun k => nI (g k)))), (o 4, .inl (ca 0, 93, .inl rd))] ([(o 0, .inr (7, [.int 0, .ref (o 1), .ref (o 2), .int (nI (rSm mm)), .ref (o 3), .int 0, .int (nI ((rRa g n rd).1)), .int (zb ((rRa g n rd).2.1)), .ref (o 4), .int (nI ((rRa g n rd).2.2.2)), f10])), (o 1, .inl (ca 0, 99, .inl ((rPlF qf pf df (rRa g n rd).2.2.2 0 sf).2))), (o 2, .inl (ca 0, 594, .inl (rSv sf sv mm))), (o 3, .inl (ca 0, 60, .inl (fun k => nI (g k)))), (o 4, .inl (ca 0, 93, .inl ((rRa g n rd).2.2.1)))]) [.ref (o 0)] (some (.int (nI ((rPlF qf pf df (rRa g n rd).2.2.2 0 sf).1)))) := by
  refine zMw_of (own := RX7) (by decide) rfl (Nat.le_of_ble_eq_true rfl) ?_
  intro p e s m args below meth c ls S hr hlk hP hK hl hS
  have hP : va_P D vwCl [(o 0, .inr (7, [.int thr, .ref (o 1), .ref (o 2), .int (nI mm), .ref (o 3), .int (nI n), .int (nI i), .int (zb wl), .ref (o 4), .int (nI rm), f10])), (o 1, .inl (ca 0, 99, .inl sf)), (o 2, .inl (ca 0, 594, .inl sv)), (o 3, .inl (ca 0, 60, .inl (fun k => nI (g k)))), (o 4, .inl (ca 0, 93, .inl rd))] s.heap := hP
  have hS : va_S (zA [o 0, o 1, o 2, o 3, o 4]) s.heap s.heap [] := hS
  have hA : ∀ q ∈ [o 0, o 1, o 2, o 3, o 4], zA [o 0, o 1, o 2, o 3, o 4] q := fun _ h => h
  have hD := zDto (ws := [(o 0, .inr (7, [.int thr, .ref (o 1), .ref (o 2), .int (nI mm), .ref (o 3), .int (nI n), .int (nI i), .int (zb wl), .ref (o 4), .int (nI rm), f10])), (o 1, .inl (ca 0, 99, .inl sf)), (o 2, .inl (ca 0, 594, .inl sv)), (o 3, .inl (ca 0, 60, .inl (fun k => nI (g k)))), (o 4, .inl (ca 0, 93, .inl rd))]) hN hA rfl
  have hx := S.1
  have hb := S.2.1
  have hl : lv_has ls 2 [(0, .ref (o 0))] := hl
  refine lv_aload_n hx hb dX7_play_0 rfl (lv_at hl 0 rfl) ?_
  refine lv_iconst (v := 0) hx hb dX7_play_1 (by decide) ?_
  refine z_put S in_lay_X7 tyX7_ok nmX7 hK hP hD hS rfl 0 rfl 0 (by decide) fl_X7_22 rfl rfl rfl rfl (Nat.le_of_ble_eq_true rfl) dX7_play_2 (fun H locs hP hS => ?_)
  have hP : va_P D vwCl [(o 0, .inr (7, [.int 0, .ref (o 1), .ref (o 2), .int (nI mm), .ref (o 3), .int (nI n), .int (nI i), .int (zb wl), .ref (o 4), .int (nI rm), f10])), (o 1, .inl (ca 0, 99, .inl sf)), (o 2, .inl (ca 0, 594, .inl sv)), (o 3, .inl (ca 0, 60, .inl (fun k => nI (g k)))), (o 4, .inl (ca 0, 93, .inl rd))] H := hP
  have hD := zDto (ws := [(o 0, .inr (7, [.int 0, .ref (o 1), .ref (o 2), .int (nI mm), .ref (o 3), .int (nI n), .int (nI i), .int (zb wl), .ref (o 4), .int (nI rm), f10])), (o 1, .inl (ca 0, 99, .inl sf)), (o 2, .inl (ca 0, 594, .inl sv)), (o 3, .inl (ca 0, 60, .inl (fun k => nI (g k)))), (o 4, .inl (ca 0, 93, .inl rd))]) hN hA rfl
  refine lv_aload_n hx hb dX7_play_5 rfl (lv_at hl 0 rfl) ?_
  refine zcw (As := []) (rest := []) (st1 := []) (q0 := 0) (lw := [o 0, o 3, o 4]) S (c_X7_readsAll l D ca o (.int 0) (.ref (o 1)) (.ref (o 2)) (.int (nI mm)) f10 n i wl rm g rd (by first | assumption | omega) (by first | assumption | omega)  (znd_pick hN [0, 3, 4] rfl rfl)) ml_X7_154 zy_X7_readsAll im_X7_readsAll se_X7_readsAll ⟨Nat.le_of_ble_eq_true rfl, Nat.le_of_ble_eq_true rfl⟩ hK hP hD hS [0, 3, 4] rfl rfl rfl rfl rfl rfl rfl hl.1 rfl rfl (Nat.le_of_ble_eq_true rfl) ⟨Nat.zero_le _, Nat.zero_le _⟩ dX7_play_6 (fun H locs hP hS => ?_)
  have hP : va_P D vwCl [(o 0, .inr (7, [.int 0, .ref (o 1), .ref (o 2), .int (nI mm), .ref (o 3), .int (nI n), .int (nI ((rRa g n rd).1)), .int (zb ((rRa g n rd).2.1)), .ref (o 4), .int (nI ((rRa g n rd).2.2.2)), f10])), (o 1, .inl (ca 0, 99, .inl sf)), (o 2, .inl (ca 0, 594, .inl sv)), (o 3, .inl (ca 0, 60, .inl (fun k => nI (g k)))), (o 4, .inl (ca 0, 93, .inl ((rRa g n rd).2.2.1)))] H := hP
  have hD := zDto (ws := [(o 0, .inr (7, [.int 0, .ref (o 1), .ref (o 2), .int (nI mm), .ref (o 3), .int (nI n), .int (nI ((rRa g n rd).1)), .int (zb ((rRa g n rd).2.1)), .ref (o 4), .int (nI ((rRa g n rd).2.2.2)), f10])), (o 1, .inl (ca 0, 99, .inl sf)), (o 2, .inl (ca 0, 594, .inl sv)), (o 3, .inl (ca 0, 60, .inl (fun k => nI (g k)))), (o 4, .inl (ca 0, 93, .inl ((rRa g n rd).2.2.1)))]) hN hA rfl
  have hral := rRa_le (g := g) (n := n) (rd := rd)
  refine lv_aload_n hx hb dX7_play_9 rfl (lv_at hl 0 rfl) ?_
  refine z_get S in_lay_X7 hK hP rfl 0 rfl 7 (by decide) fl_X7_135 rfl rfl dX7_play_10 ?_
  refine zz_ne (tgt := 22) hx hb dX7_play_13 (by decide) (fun _ => ?_) (fun h => False.elim (by revert h; intro h; rw [hw] at h; exact absurd h (by decide)))
  refine lv_aload_n hx hb dX7_play_22 rfl (lv_at hl 0 rfl) ?_
  refine zcw (As := []) (rest := []) (st1 := []) (q0 := 0) (lw := [o 0, o 1, o 2]) S (c_X7_saves l D ca o (.int 0) (.ref (o 3)) (.int (nI n)) (.int (nI ((rRa g n rd).1))) (.int (zb ((rRa g n rd).2.1))) (.ref (o 4)) (.int (nI ((rRa g n rd).2.2.2))) f10 mm sf sv (by first | assumption | omega)  (znd_pick hN [0, 1, 2] rfl rfl)) ml_X7_74 zy_X7_saves im_X7_saves se_X7_saves ⟨Nat.le_of_ble_eq_true rfl, Nat.le_of_ble_eq_true rfl⟩ hK hP hD hS [0, 1, 2] rfl rfl rfl rfl rfl rfl rfl hl.1 rfl rfl (Nat.le_of_ble_eq_true rfl) ⟨Nat.zero_le _, Nat.zero_le _⟩ dX7_play_23 (fun H locs hP hS => ?_)
  have hP : va_P D vwCl [(o 0, .inr (7, [.int 0, .ref (o 1), .ref (o 2), .int (nI (rSm mm)), .ref (o 3), .int (nI n), .int (nI ((rRa g n rd).1)), .int (zb ((rRa g n rd).2.1)), .ref (o 4), .int (nI ((rRa g n rd).2.2.2)), f10])), (o 1, .inl (ca 0, 99, .inl sf)), (o 2, .inl (ca 0, 594, .inl (rSv sf sv mm))), (o 3, .inl (ca 0, 60, .inl (fun k => nI (g k)))), (o 4, .inl (ca 0, 93, .inl ((rRa g n rd).2.2.1)))] H := hP
  have hD := zDto (ws := [(o 0, .inr (7, [.int 0, .ref (o 1), .ref (o 2), .int (nI (rSm mm)), .ref (o 3), .int (nI n), .int (nI ((rRa g n rd).1)), .int (zb ((rRa g n rd).2.1)), .ref (o 4), .int (nI ((rRa g n rd).2.2.2)), f10])), (o 1, .inl (ca 0, 99, .inl sf)), (o 2, .inl (ca 0, 594, .inl (rSv sf sv mm))), (o 3, .inl (ca 0, 60, .inl (fun k => nI (g k)))), (o 4, .inl (ca 0, 93, .inl ((rRa g n rd).2.2.1)))]) hN hA rfl
  have hsm : rSm mm ≤ 6 := by unfold rSm; split <;> omega
  refine lv_aload_n hx hb dX7_play_26 rfl (lv_at hl 0 rfl) ?_
  refine lv_iconst (v := 0) hx hb dX7_play_27 (by decide) ?_
  refine z_put S in_lay_X7 tyX7_ok nmX7 hK hP hD hS rfl 0 rfl 5 (by decide) fl_X7_129 rfl rfl rfl rfl (Nat.le_of_ble_eq_true rfl) dX7_play_28 (fun H locs hP hS => ?_)
  have hP : va_P D vwCl [(o 0, .inr (7, [.int 0, .ref (o 1), .ref (o 2), .int (nI (rSm mm)), .ref (o 3), .int 0, .int (nI ((rRa g n rd).1)), .int (zb ((rRa g n rd).2.1)), .ref (o 4), .int (nI ((rRa g n rd).2.2.2)), f10])), (o 1, .inl (ca 0, 99, .inl sf)), (o 2, .inl (ca 0, 594, .inl (rSv sf sv mm))), (o 3, .inl (ca 0, 60, .inl (fun k => nI (g k)))), (o 4, .inl (ca 0, 93, .inl ((rRa g n rd).2.2.1)))] H := hP
  have hD := zDto (ws := [(o 0, .inr (7, [.int 0, .ref (o 1), .ref (o 2), .int (nI (rSm mm)), .ref (o 3), .int 0, .int (nI ((rRa g n rd).1)), .int (zb ((rRa g n rd).2.1)), .ref (o 4), .int (nI ((rRa g n rd).2.2.2)), f10])), (o 1, .inl (ca 0, 99, .inl sf)), (o 2, .inl (ca 0, 594, .inl (rSv sf sv mm))), (o 3, .inl (ca 0, 60, .inl (fun k => nI (g k)))), (o 4, .inl (ca 0, 93, .inl ((rRa g n rd).2.2.1)))]) hN hA rfl
  refine lv_iconst (v := 0) hx hb dX7_play_31 (by decide) ?_
  refine lv_istore_n (lv' := [(1, .int 0), (0, .ref (o 0))]) hx hb dX7_play_32 rfl hl (by decide) rfl (fun ls hl => ?_)
  have loop_0 : ∀ (f : Nat) (k : Nat) (uf : Nat → Int32) (H : Heap) (locs : List Loc) (ls : Array Slot), k + f = (rRa g n rd).2.2.2 → rPlF qf pf df (rRa g n rd).2.2.2 0 sf = rPlF qf pf df f k uf → lv_has ls 2 [(0, .ref (o 0)), (1, .int (nI k))] → va_P D vwCl [(o 0, .inr (7, [.int 0, .ref (o 1), .ref (o 2), .int (nI (rSm mm)), .ref (o 3), .int 0, .int (nI ((rRa g n rd).1)), .int (zb ((rRa g n rd).2.1)), .ref (o 4), .int (nI ((rRa g n rd).2.2.2)), f10])), (o 1, .inl (ca 0, 99, .inl uf)), (o 2, .inl (ca 0, 594, .inl (rSv sf sv mm))), (o 3, .inl (ca 0, 60, .inl (fun k => nI (g k)))), (o 4, .inl (ca 0, 93, .inl ((rRa g n rd).2.2.1)))] H → va_S (zA [o 0, o 1, o 2, o 3, o 4]) s.heap H locs → W p l e { frames := 6, cells := 0, slots := 0, locals := 136 } s m args below meth c H locs 0 0 (MQ below (zQw D [o 0, o 1, o 2, o 3, o 4] ([(o 0, .inr (7, [.int 0, .ref (o 1), .ref (o 2), .int (nI (rSm mm)), .ref (o 3), .int 0, .int (nI ((rRa g n rd).1)), .int (zb ((rRa g n rd).2.1)), .ref (o 4), .int (nI ((rRa g n rd).2.2.2)), f10])), (o 1, .inl (ca 0, 99, .inl ((rPlF qf pf df (rRa g n rd).2.2.2 0 sf).2))), (o 2, .inl (ca 0, 594, .inl (rSv sf sv mm))), (o 3, .inl (ca 0, 60, .inl (fun k => nI (g k)))), (o 4, .inl (ca 0, 93, .inl ((rRa g n rd).2.2.1)))]) (some (.int (nI ((rPlF qf pf df (rRa g n rd).2.2.2 0 sf).1))))) args s 0 0 (zA [o 0, o 1, o 2, o 3, o 4])) (F0 m 33 ls []) := by
    intro f
    induction f with
    | zero =>
      intro k uf H locs ls j1 j2 hl hP hS
      have hD := zDto (ws := [(o 0, .inr (7, [.int 0, .ref (o 1), .ref (o 2), .int (nI (rSm mm)), .ref (o 3), .int 0, .int (nI ((rRa g n rd).1)), .int (zb ((rRa g n rd).2.1)), .ref (o 4), .int (nI ((rRa g n rd).2.2.2)), f10])), (o 1, .inl (ca 0, 99, .inl uf)), (o 2, .inl (ca 0, 594, .inl (rSv sf sv mm))), (o 3, .inl (ca 0, 60, .inl (fun k => nI (g k)))), (o 4, .inl (ca 0, 93, .inl ((rRa g n rd).2.2.1)))]) hN hA rfl
      refine lv_iload_n hx hb dX7_play_33 rfl (lv_at hl 1 rfl) ?_
      refine lv_aload_n hx hb dX7_play_34 rfl (lv_at hl 0 rfl) ?_
      refine z_get S in_lay_X7 hK hP rfl 0 rfl 9 (by decide) fl_X7_145 rfl rfl dX7_play_35 ?_
      refine zn_ge hx hb (x := k) (y := (rRa g n rd).2.2.2) (by omega) (by omega) (tgt := 57) dX7_play_38 (by decide) (fun c_38_2 => ?_) (fun h => False.elim (by omega))
      refine lv_iload_n hx hb dX7_play_57 rfl (lv_at hl 1 rfl) ?_
      have hz : rPlF qf pf df (rRa g n rd).2.2.2 0 sf = (k, uf) := by rw [j2]; simp only [rPlF, c_38_2, if_false, Bool.false_eq_true]
      exact zw_i hx hb hr hlk hP hS ⟨by rw [hz] <;> rfl, by rw [hz] <;> rfl⟩ dX7_play_58
    | succ f ih =>
      intro k uf H locs ls j1 j2 hl hP hS
      have hD := zDto (ws := [(o 0, .inr (7, [.int 0, .ref (o 1), .ref (o 2), .int (nI (rSm mm)), .ref (o 3), .int 0, .int (nI ((rRa g n rd).1)), .int (zb ((rRa g n rd).2.1)), .ref (o 4), .int (nI ((rRa g n rd).2.2.2)), f10])), (o 1, .inl (ca 0, 99, .inl uf)), (o 2, .inl (ca 0, 594, .inl (rSv sf sv mm))), (o 3, .inl (ca 0, 60, .inl (fun k => nI (g k)))), (o 4, .inl (ca 0, 93, .inl ((rRa g n rd).2.2.1)))]) hN hA rfl
      refine lv_iload_n hx hb dX7_play_33 rfl (lv_at hl 1 rfl) ?_
      refine lv_aload_n hx hb dX7_play_34 rfl (lv_at hl 0 rfl) ?_
      refine z_get S in_lay_X7 hK hP rfl 0 rfl 9 (by decide) fl_X7_145 rfl rfl dX7_play_35 ?_
      refine zn_ge hx hb (x := k) (y := (rRa g n rd).2.2.2) (by omega) (by omega) (tgt := 57) dX7_play_38 (by decide) (fun h => False.elim (by omega)) (fun c_38_3 => ?_)
      refine lv_aload_n hx hb dX7_play_41 rfl (lv_at hl 0 rfl) ?_
      refine lv_iconst (v := 3) hx hb dX7_play_42 (by decide) ?_
      refine lv_iload_n hx hb dX7_play_43 rfl (lv_at hl 1 rfl) ?_
      refine zn_mul hx hb (x := 3) (y := k) (z := 3 * k) (by first | rfl | omega) dX7_play_44 ?_
      refine zcw (As := [.int (nI (3 * k))]) (rest := []) (st1 := [.int (zb ((rMk uf (qf k) (pf k) (df k)).1))]) (q0 := 0) (lw := [o 0, o 1, o 4]) S (c_X7_makes l D ca o (.int 0) (.ref (o 2)) (.int (nI (rSm mm))) (.ref (o 3)) (.int 0) (.int (nI ((rRa g n rd).1))) (.int (zb ((rRa g n rd).2.1))) (.int (nI ((rRa g n rd).2.2.2))) f10  uf ((rRa g n rd).2.2.1) (3 * k) (qf k) (pf k) (df k) (by omega) (hwf k (by omega)).1 (hwf k (by omega)).2.1 (hwf k (by omega)).2.2.1 (hwf k (by omega)).2.2.2.1 (hwf k (by omega)).2.2.2.2.1 (hwf k (by omega)).2.2.2.2.2 (znd_pick hN [0, 1, 4] rfl rfl)) ml_X7_157 zy_X7_makes im_X7_makes se_X7_makes ⟨Nat.le_of_ble_eq_true rfl, Nat.le_of_ble_eq_true rfl⟩ hK hP hD hS [0, 1, 4] rfl rfl rfl rfl rfl rfl rfl hl.1 rfl rfl (Nat.le_of_ble_eq_true rfl) ⟨Nat.zero_le _, Nat.zero_le _⟩ dX7_play_45 (fun H locs hP hS => ?_)
      have hP : va_P D vwCl [(o 0, .inr (7, [.int 0, .ref (o 1), .ref (o 2), .int (nI (rSm mm)), .ref (o 3), .int 0, .int (nI ((rRa g n rd).1)), .int (zb ((rRa g n rd).2.1)), .ref (o 4), .int (nI ((rRa g n rd).2.2.2)), f10])), (o 1, .inl (ca 0, 99, .inl ((rMk uf (qf k) (pf k) (df k)).2))), (o 2, .inl (ca 0, 594, .inl (rSv sf sv mm))), (o 3, .inl (ca 0, 60, .inl (fun k => nI (g k)))), (o 4, .inl (ca 0, 93, .inl ((rRa g n rd).2.2.1)))] H := hP
      have hD := zDto (ws := [(o 0, .inr (7, [.int 0, .ref (o 1), .ref (o 2), .int (nI (rSm mm)), .ref (o 3), .int 0, .int (nI ((rRa g n rd).1)), .int (zb ((rRa g n rd).2.1)), .ref (o 4), .int (nI ((rRa g n rd).2.2.2)), f10])), (o 1, .inl (ca 0, 99, .inl ((rMk uf (qf k) (pf k) (df k)).2))), (o 2, .inl (ca 0, 594, .inl (rSv sf sv mm))), (o 3, .inl (ca 0, 60, .inl (fun k => nI (g k)))), (o 4, .inl (ca 0, 93, .inl ((rRa g n rd).2.2.1)))]) hN hA rfl
      refine zz_eq (tgt := 57) hx hb dX7_play_48 (by decide) (fun c_48_4 => ?_) (fun c_48_4 => ?_)
      · refine lv_iload_n hx hb dX7_play_57 rfl (lv_at hl 1 rfl) ?_
        have hz : rPlF qf pf df (rRa g n rd).2.2.2 0 sf = (k, (rMk uf (qf k) (pf k) (df k)).2) := by rw [j2]; simp only [rPlF, c_38_3, c_48_4, if_false, Bool.false_eq_true]
        exact zw_i hx hb hr hlk hP hS ⟨by rw [hz] <;> rfl, by rw [hz] <;> rfl⟩ dX7_play_58
      · refine lv_iinc (v := nI (k + 1)) (lv' := [(1, .int (nI (k + 1))), (0, .ref (o 0))]) hx hb dX7_play_51 hl (k := 1) rfl (zinc k 1) (by decide) rfl (fun ls hl => ?_)
        refine lv_goto (tgt := 33) hx hb dX7_play_54 (by decide) ?_
        exact ih (k + 1) ((rMk uf (qf k) (pf k) (df k)).2) _ _ ls (by omega) (by rw [j2]; simp only [rPlF, c_38_3, c_48_4, if_true]) (lv_sub hl [1, 0] rfl) hP hS
  exact loop_0 ((rRa g n rd).2.2.2) 0 sf _ _ ls (by omega) (by rfl) (lv_sub hl [1, 0] rfl) hP hS
set_option maxHeartbeats 4000000 in
set_option maxRecDepth 100000 in
theorem c_X7_slot_A (l : Launch) (D : va_G) (ca : Nat → ClassId) (o : Nat → Nat) (f1 f2 f3 f4 f5 f6 f7 f8 f9 f10 : Value) (thr : Int32) (v u : Int32) (hv : rIn v 0 23 = false) (hN : [o 0].Nodup) : zMw l yX7_slot cX7_slot 3 (some .int) 2 42 D ca [(o 0, .inr (7, [.int thr, f1, f2, f3, f4, f5, f6, f7, f8, f9, f10]))] ([(o 0, .inr (7, [.int 1, f1, f2, f3, f4, f5, f6, f7, f8, f9, f10]))]) [.ref (o 0), .int v, .int u] (some (.int 0)) := by
  refine zMw_of (own := RX7) (by decide) rfl (Nat.le_of_ble_eq_true rfl) ?_
  intro p e s m args below meth c ls S hr hlk hP hK hl hS
  have hP : va_P D vwCl [(o 0, .inr (7, [.int thr, f1, f2, f3, f4, f5, f6, f7, f8, f9, f10]))] s.heap := hP
  have hS : va_S (zA [o 0]) s.heap s.heap [] := hS
  have hA : ∀ q ∈ [o 0], zA [o 0] q := fun _ h => h
  have hD := zDto (ws := [(o 0, .inr (7, [.int thr, f1, f2, f3, f4, f5, f6, f7, f8, f9, f10]))]) hN hA rfl
  have hx := S.1
  have hb := S.2.1
  have hl : lv_has ls 3 [(0, .ref (o 0)), (1, .int v), (2, .int u)] := hl
  refine lv_aload_n hx hb dX7_slot_0 rfl (lv_at hl 0 rfl) ?_
  refine lv_iconst (v := 0) hx hb dX7_slot_1 (by decide) ?_
  refine z_put S in_lay_X7 tyX7_ok nmX7 hK hP hD hS rfl 0 rfl 0 (by decide) fl_X7_22 rfl rfl rfl rfl (Nat.le_of_ble_eq_true rfl) dX7_slot_2 (fun H locs hP hS => ?_)
  have hP : va_P D vwCl [(o 0, .inr (7, [.int 0, f1, f2, f3, f4, f5, f6, f7, f8, f9, f10]))] H := hP
  have hD := zDto (ws := [(o 0, .inr (7, [.int 0, f1, f2, f3, f4, f5, f6, f7, f8, f9, f10]))]) hN hA rfl
  refine lv_iload_n hx hb dX7_slot_5 rfl (lv_at hl 1 rfl) ?_
  refine zcrS (As := [.int v]) (rest := []) S (c_X7_isPlace l D ca v) ml_X7_60 zy_X7_isPlace st_X7_isPlace ⟨Nat.le_of_ble_eq_true rfl, Nat.le_of_ble_eq_true rfl⟩ hK hP [] rfl rfl hl.1 rfl (Nat.le_of_ble_eq_true rfl) ⟨Nat.zero_le _, Nat.zero_le _⟩ dX7_slot_6 ?_
  refine zz_ne (tgt := 18) hx hb dX7_slot_9 (by decide) (fun h => False.elim (by revert h; intro h; rw [hv] at h; exact absurd h (by decide))) (fun _ => ?_)
  refine lv_aload_n hx hb dX7_slot_12 rfl (lv_at hl 0 rfl) ?_
  refine lv_iconst (v := 1) hx hb dX7_slot_13 (by decide) ?_
  refine zcw (As := [.int 1]) (rest := []) (st1 := [.int 0]) (q0 := 0) (lw := [o 0]) S (c_X7_fails l D ca o f1 f2 f3 f4 f5 f6 f7 f8 f9 f10 0  1 (znd_pick hN [0] rfl rfl)) ml_X7_67 zy_X7_fails im_X7_fails se_X7_fails ⟨Nat.le_of_ble_eq_true rfl, Nat.le_of_ble_eq_true rfl⟩ hK hP hD hS [0] rfl rfl rfl rfl rfl rfl rfl hl.1 rfl rfl (Nat.le_of_ble_eq_true rfl) ⟨Nat.zero_le _, Nat.zero_le _⟩ dX7_slot_14 (fun H locs hP hS => ?_)
  have hP : va_P D vwCl [(o 0, .inr (7, [.int 1, f1, f2, f3, f4, f5, f6, f7, f8, f9, f10]))] H := hP
  have hD := zDto (ws := [(o 0, .inr (7, [.int 1, f1, f2, f3, f4, f5, f6, f7, f8, f9, f10]))]) hN hA rfl
  exact zw_i hx hb hr hlk hP hS ⟨by rfl, by rfl⟩ dX7_slot_17
set_option maxHeartbeats 4000000 in
set_option maxRecDepth 100000 in
theorem c_X7_slot_B (l : Launch) (D : va_G) (ca : Nat → ClassId) (o : Nat → Nat) (f1 f2 f3 f4 f5 f6 f7 f8 f9 f10 : Value) (thr : Int32) (k : Nat) (hk : k < 24) (u : Int32) (hu : rIn u 0 3 = false) (hN : [o 0].Nodup) : zMw l yX7_slot cX7_slot 3 (some .int) 2 42 D ca [(o 0, .inr (7, [.int thr, f1, f2, f3, f4, f5, f6, f7, f8, f9, f10]))] ([(o 0, .inr (7, [.int 2, f1, f2, f3, f4, f5, f6, f7, f8, f9, f10]))]) [.ref (o 0), .int (nI k), .int u] (some (.int 0)) := by
  refine zMw_of (own := RX7) (by decide) rfl (Nat.le_of_ble_eq_true rfl) ?_
  intro p e s m args below meth c ls S hr hlk hP hK hl hS
  have hP : va_P D vwCl [(o 0, .inr (7, [.int thr, f1, f2, f3, f4, f5, f6, f7, f8, f9, f10]))] s.heap := hP
  have hS : va_S (zA [o 0]) s.heap s.heap [] := hS
  have hA : ∀ q ∈ [o 0], zA [o 0] q := fun _ h => h
  have hD := zDto (ws := [(o 0, .inr (7, [.int thr, f1, f2, f3, f4, f5, f6, f7, f8, f9, f10]))]) hN hA rfl
  have hx := S.1
  have hb := S.2.1
  have hl : lv_has ls 3 [(0, .ref (o 0)), (1, .int (nI k)), (2, .int u)] := hl
  have hin : rIn (nI k) 0 23 = true := rIn_t (a := 0) (b := 23) (by omega) (by omega) (by decide)
  refine lv_aload_n hx hb dX7_slot_0 rfl (lv_at hl 0 rfl) ?_
  refine lv_iconst (v := 0) hx hb dX7_slot_1 (by decide) ?_
  refine z_put S in_lay_X7 tyX7_ok nmX7 hK hP hD hS rfl 0 rfl 0 (by decide) fl_X7_22 rfl rfl rfl rfl (Nat.le_of_ble_eq_true rfl) dX7_slot_2 (fun H locs hP hS => ?_)
  have hP : va_P D vwCl [(o 0, .inr (7, [.int 0, f1, f2, f3, f4, f5, f6, f7, f8, f9, f10]))] H := hP
  have hD := zDto (ws := [(o 0, .inr (7, [.int 0, f1, f2, f3, f4, f5, f6, f7, f8, f9, f10]))]) hN hA rfl
  refine lv_iload_n hx hb dX7_slot_5 rfl (lv_at hl 1 rfl) ?_
  refine zcrS (As := [.int (nI k)]) (rest := []) S (c_X7_isPlace l D ca (nI k)) ml_X7_60 zy_X7_isPlace st_X7_isPlace ⟨Nat.le_of_ble_eq_true rfl, Nat.le_of_ble_eq_true rfl⟩ hK hP [] rfl rfl hl.1 rfl (Nat.le_of_ble_eq_true rfl) ⟨Nat.zero_le _, Nat.zero_le _⟩ dX7_slot_6 ?_
  refine zz_ne (tgt := 18) hx hb dX7_slot_9 (by decide) (fun _ => ?_) (fun h => False.elim (by revert h; intro h; rw [hin] at h; exact absurd h (by decide)))
  refine lv_iload_n hx hb dX7_slot_18 rfl (lv_at hl 2 rfl) ?_
  refine lv_iconst (v := 0) hx hb dX7_slot_19 (by decide) ?_
  refine lv_iconst (v := 3) hx hb dX7_slot_20 (by decide) ?_
  refine zcrS (As := [.int u, .int 0, .int 3]) (rest := []) S (c_X7_in l D ca u 0 3) ml_X7_26 zy_X7_in st_X7_in ⟨Nat.le_of_ble_eq_true rfl, Nat.le_of_ble_eq_true rfl⟩ hK hP [] rfl rfl hl.1 rfl (Nat.le_of_ble_eq_true rfl) ⟨Nat.zero_le _, Nat.zero_le _⟩ dX7_slot_21 ?_
  refine zz_eq (tgt := 36) hx hb dX7_slot_24 (by decide) (fun _ => ?_) (fun h => False.elim (by revert h; intro h; rw [hu] at h; exact absurd h (by decide)))
  refine lv_aload_n hx hb dX7_slot_36 rfl (lv_at hl 0 rfl) ?_
  refine lv_iconst (v := 2) hx hb dX7_slot_37 (by decide) ?_
  refine zcw (As := [.int 2]) (rest := []) (st1 := [.int 0]) (q0 := 0) (lw := [o 0]) S (c_X7_fails l D ca o f1 f2 f3 f4 f5 f6 f7 f8 f9 f10 0  2 (znd_pick hN [0] rfl rfl)) ml_X7_67 zy_X7_fails im_X7_fails se_X7_fails ⟨Nat.le_of_ble_eq_true rfl, Nat.le_of_ble_eq_true rfl⟩ hK hP hD hS [0] rfl rfl rfl rfl rfl rfl rfl hl.1 rfl rfl (Nat.le_of_ble_eq_true rfl) ⟨Nat.zero_le _, Nat.zero_le _⟩ dX7_slot_38 (fun H locs hP hS => ?_)
  have hP : va_P D vwCl [(o 0, .inr (7, [.int 2, f1, f2, f3, f4, f5, f6, f7, f8, f9, f10]))] H := hP
  have hD := zDto (ws := [(o 0, .inr (7, [.int 2, f1, f2, f3, f4, f5, f6, f7, f8, f9, f10]))]) hN hA rfl
  exact zw_i hx hb hr hlk hP hS ⟨by rfl, by rfl⟩ dX7_slot_41
set_option maxHeartbeats 4000000 in
set_option maxRecDepth 100000 in
theorem c_X7_slot_C (l : Launch) (D : va_G) (ca : Nat → ClassId) (o : Nat → Nat) (f2 f3 f4 f5 f6 f7 f8 f9 f10 : Value) (thr : Int32) (sf : Nat → Int32) (k w : Nat) (hk : k < 24) (hw : w < 4) (hN : [o 0, o 1].Nodup) : zMw l yX7_slot cX7_slot 3 (some .int) 4 88 D ca [(o 0, .inr (7, [.int thr, .ref (o 1), f2, f3, f4, f5, f6, f7, f8, f9, f10])), (o 1, .inl (ca 0, 99, .inl sf))] ([(o 0, .inr (7, [.int 0, .ref (o 1), f2, f3, f4, f5, f6, f7, f8, f9, f10])), (o 1, .inl (ca 0, 99, .inl sf))]) [.ref (o 0), .int (nI k), .int (nI w)] (some (.int (rTs sf k w))) := by
  refine zMw_of (own := RX7) (by decide) rfl (Nat.le_of_ble_eq_true rfl) ?_
  intro p e s m args below meth c ls S hr hlk hP hK hl hS
  have hP : va_P D vwCl [(o 0, .inr (7, [.int thr, .ref (o 1), f2, f3, f4, f5, f6, f7, f8, f9, f10])), (o 1, .inl (ca 0, 99, .inl sf))] s.heap := hP
  have hS : va_S (zA [o 0, o 1]) s.heap s.heap [] := hS
  have hA : ∀ q ∈ [o 0, o 1], zA [o 0, o 1] q := fun _ h => h
  have hD := zDto (ws := [(o 0, .inr (7, [.int thr, .ref (o 1), f2, f3, f4, f5, f6, f7, f8, f9, f10])), (o 1, .inl (ca 0, 99, .inl sf))]) hN hA rfl
  have hx := S.1
  have hb := S.2.1
  have hl : lv_has ls 3 [(0, .ref (o 0)), (1, .int (nI k)), (2, .int (nI w))] := hl
  have hin : rIn (nI k) 0 23 = true := rIn_t (a := 0) (b := 23) (by omega) (by omega) (by decide)
  have hin2 : rIn (nI w) 0 3 = true := rIn_t (a := 0) (b := 3) (by omega) (by omega) (by decide)
  refine lv_aload_n hx hb dX7_slot_0 rfl (lv_at hl 0 rfl) ?_
  refine lv_iconst (v := 0) hx hb dX7_slot_1 (by decide) ?_
  refine z_put S in_lay_X7 tyX7_ok nmX7 hK hP hD hS rfl 0 rfl 0 (by decide) fl_X7_22 rfl rfl rfl rfl (Nat.le_of_ble_eq_true rfl) dX7_slot_2 (fun H locs hP hS => ?_)
  have hP : va_P D vwCl [(o 0, .inr (7, [.int 0, .ref (o 1), f2, f3, f4, f5, f6, f7, f8, f9, f10])), (o 1, .inl (ca 0, 99, .inl sf))] H := hP
  have hD := zDto (ws := [(o 0, .inr (7, [.int 0, .ref (o 1), f2, f3, f4, f5, f6, f7, f8, f9, f10])), (o 1, .inl (ca 0, 99, .inl sf))]) hN hA rfl
  refine lv_iload_n hx hb dX7_slot_5 rfl (lv_at hl 1 rfl) ?_
  refine zcrS (As := [.int (nI k)]) (rest := []) S (c_X7_isPlace l D ca (nI k)) ml_X7_60 zy_X7_isPlace st_X7_isPlace ⟨Nat.le_of_ble_eq_true rfl, Nat.le_of_ble_eq_true rfl⟩ hK hP [] rfl rfl hl.1 rfl (Nat.le_of_ble_eq_true rfl) ⟨Nat.zero_le _, Nat.zero_le _⟩ dX7_slot_6 ?_
  refine zz_ne (tgt := 18) hx hb dX7_slot_9 (by decide) (fun _ => ?_) (fun h => False.elim (by revert h; intro h; rw [hin] at h; exact absurd h (by decide)))
  refine lv_iload_n hx hb dX7_slot_18 rfl (lv_at hl 2 rfl) ?_
  refine lv_iconst (v := 0) hx hb dX7_slot_19 (by decide) ?_
  refine lv_iconst (v := 3) hx hb dX7_slot_20 (by decide) ?_
  refine zcrS (As := [.int (nI w), .int 0, .int 3]) (rest := []) S (c_X7_in l D ca (nI w) 0 3) ml_X7_26 zy_X7_in st_X7_in ⟨Nat.le_of_ble_eq_true rfl, Nat.le_of_ble_eq_true rfl⟩ hK hP [] rfl rfl hl.1 rfl (Nat.le_of_ble_eq_true rfl) ⟨Nat.zero_le _, Nat.zero_le _⟩ dX7_slot_21 ?_
  refine zz_eq (tgt := 36) hx hb dX7_slot_24 (by decide) (fun h => False.elim (by revert h; intro h; rw [hin2] at h; exact absurd h (by decide))) (fun _ => ?_)
  refine lv_aload_n hx hb dX7_slot_27 rfl (lv_at hl 0 rfl) ?_
  refine lv_iload_n hx hb dX7_slot_28 rfl (lv_at hl 1 rfl) ?_
  refine lv_iload_n hx hb dX7_slot_29 rfl (lv_at hl 2 rfl) ?_
  refine zcr (As := [.int (nI k), .int (nI w)]) (rest := []) (q0 := 0) S (c_X7_tellsSlot l D ca o (.int 0) f2 f3 f4 f5 f6 f7 f8 f9 f10 sf k w (by omega) (by omega)) ml_X7_160 zy_X7_tellsSlot im_X7_tellsSlot se_X7_tellsSlot ⟨Nat.le_of_ble_eq_true rfl, Nat.le_of_ble_eq_true rfl⟩ hK hP [0, 1] rfl rfl rfl rfl rfl hl.1 rfl (Nat.le_of_ble_eq_true rfl) ⟨Nat.zero_le _, Nat.zero_le _⟩ dX7_slot_30 ?_
  refine lv_goto (tgt := 41) hx hb dX7_slot_33 (by decide) ?_
  exact zw_i hx hb hr hlk hP hS ⟨by rfl, by rfl⟩ dX7_slot_41
set_option maxHeartbeats 4000000 in
set_option maxRecDepth 100000 in
theorem c_X7_page_A (l : Launch) (D : va_G) (ca : Nat → ClassId) (o : Nat → Nat) (f1 f2 f3 f4 f5 f6 f7 f8 f9 f10 : Value) (thr : Int32) (v u : Int32) (hv : rIn v 0 5 = false) (hN : [o 0].Nodup) : zMw l yX7_page cX7_page 3 (some .int) 2 42 D ca [(o 0, .inr (7, [.int thr, f1, f2, f3, f4, f5, f6, f7, f8, f9, f10]))] ([(o 0, .inr (7, [.int 1, f1, f2, f3, f4, f5, f6, f7, f8, f9, f10]))]) [.ref (o 0), .int v, .int u] (some (.int 0)) := by
  refine zMw_of (own := RX7) (by decide) rfl (Nat.le_of_ble_eq_true rfl) ?_
  intro p e s m args below meth c ls S hr hlk hP hK hl hS
  have hP : va_P D vwCl [(o 0, .inr (7, [.int thr, f1, f2, f3, f4, f5, f6, f7, f8, f9, f10]))] s.heap := hP
  have hS : va_S (zA [o 0]) s.heap s.heap [] := hS
  have hA : ∀ q ∈ [o 0], zA [o 0] q := fun _ h => h
  have hD := zDto (ws := [(o 0, .inr (7, [.int thr, f1, f2, f3, f4, f5, f6, f7, f8, f9, f10]))]) hN hA rfl
  have hx := S.1
  have hb := S.2.1
  have hl : lv_has ls 3 [(0, .ref (o 0)), (1, .int v), (2, .int u)] := hl
  refine lv_aload_n hx hb dX7_page_0 rfl (lv_at hl 0 rfl) ?_
  refine lv_iconst (v := 0) hx hb dX7_page_1 (by decide) ?_
  refine z_put S in_lay_X7 tyX7_ok nmX7 hK hP hD hS rfl 0 rfl 0 (by decide) fl_X7_22 rfl rfl rfl rfl (Nat.le_of_ble_eq_true rfl) dX7_page_2 (fun H locs hP hS => ?_)
  have hP : va_P D vwCl [(o 0, .inr (7, [.int 0, f1, f2, f3, f4, f5, f6, f7, f8, f9, f10]))] H := hP
  have hD := zDto (ws := [(o 0, .inr (7, [.int 0, f1, f2, f3, f4, f5, f6, f7, f8, f9, f10]))]) hN hA rfl
  refine lv_iload_n hx hb dX7_page_5 rfl (lv_at hl 1 rfl) ?_
  refine zcrS (As := [.int v]) (rest := []) S (c_X7_isPage l D ca v) ml_X7_99 zy_X7_isPage st_X7_isPage ⟨Nat.le_of_ble_eq_true rfl, Nat.le_of_ble_eq_true rfl⟩ hK hP [] rfl rfl hl.1 rfl (Nat.le_of_ble_eq_true rfl) ⟨Nat.zero_le _, Nat.zero_le _⟩ dX7_page_6 ?_
  refine zz_ne (tgt := 18) hx hb dX7_page_9 (by decide) (fun h => False.elim (by revert h; intro h; rw [hv] at h; exact absurd h (by decide))) (fun _ => ?_)
  refine lv_aload_n hx hb dX7_page_12 rfl (lv_at hl 0 rfl) ?_
  refine lv_iconst (v := 1) hx hb dX7_page_13 (by decide) ?_
  refine zcw (As := [.int 1]) (rest := []) (st1 := [.int 0]) (q0 := 0) (lw := [o 0]) S (c_X7_fails l D ca o f1 f2 f3 f4 f5 f6 f7 f8 f9 f10 0  1 (znd_pick hN [0] rfl rfl)) ml_X7_67 zy_X7_fails im_X7_fails se_X7_fails ⟨Nat.le_of_ble_eq_true rfl, Nat.le_of_ble_eq_true rfl⟩ hK hP hD hS [0] rfl rfl rfl rfl rfl rfl rfl hl.1 rfl rfl (Nat.le_of_ble_eq_true rfl) ⟨Nat.zero_le _, Nat.zero_le _⟩ dX7_page_14 (fun H locs hP hS => ?_)
  have hP : va_P D vwCl [(o 0, .inr (7, [.int 1, f1, f2, f3, f4, f5, f6, f7, f8, f9, f10]))] H := hP
  have hD := zDto (ws := [(o 0, .inr (7, [.int 1, f1, f2, f3, f4, f5, f6, f7, f8, f9, f10]))]) hN hA rfl
  exact zw_i hx hb hr hlk hP hS ⟨by rfl, by rfl⟩ dX7_page_17
set_option maxHeartbeats 4000000 in
set_option maxRecDepth 100000 in
theorem c_X7_page_B (l : Launch) (D : va_G) (ca : Nat → ClassId) (o : Nat → Nat) (f1 f2 f3 f4 f5 f6 f7 f8 f9 f10 : Value) (thr : Int32) (k : Nat) (hk : k < 6) (u : Int32) (hu : rIn u 0 4 = false) (hN : [o 0].Nodup) : zMw l yX7_page cX7_page 3 (some .int) 2 42 D ca [(o 0, .inr (7, [.int thr, f1, f2, f3, f4, f5, f6, f7, f8, f9, f10]))] ([(o 0, .inr (7, [.int 2, f1, f2, f3, f4, f5, f6, f7, f8, f9, f10]))]) [.ref (o 0), .int (nI k), .int u] (some (.int 0)) := by
  refine zMw_of (own := RX7) (by decide) rfl (Nat.le_of_ble_eq_true rfl) ?_
  intro p e s m args below meth c ls S hr hlk hP hK hl hS
  have hP : va_P D vwCl [(o 0, .inr (7, [.int thr, f1, f2, f3, f4, f5, f6, f7, f8, f9, f10]))] s.heap := hP
  have hS : va_S (zA [o 0]) s.heap s.heap [] := hS
  have hA : ∀ q ∈ [o 0], zA [o 0] q := fun _ h => h
  have hD := zDto (ws := [(o 0, .inr (7, [.int thr, f1, f2, f3, f4, f5, f6, f7, f8, f9, f10]))]) hN hA rfl
  have hx := S.1
  have hb := S.2.1
  have hl : lv_has ls 3 [(0, .ref (o 0)), (1, .int (nI k)), (2, .int u)] := hl
  have hin : rIn (nI k) 0 5 = true := rIn_t (a := 0) (b := 5) (by omega) (by omega) (by decide)
  refine lv_aload_n hx hb dX7_page_0 rfl (lv_at hl 0 rfl) ?_
  refine lv_iconst (v := 0) hx hb dX7_page_1 (by decide) ?_
  refine z_put S in_lay_X7 tyX7_ok nmX7 hK hP hD hS rfl 0 rfl 0 (by decide) fl_X7_22 rfl rfl rfl rfl (Nat.le_of_ble_eq_true rfl) dX7_page_2 (fun H locs hP hS => ?_)
  have hP : va_P D vwCl [(o 0, .inr (7, [.int 0, f1, f2, f3, f4, f5, f6, f7, f8, f9, f10]))] H := hP
  have hD := zDto (ws := [(o 0, .inr (7, [.int 0, f1, f2, f3, f4, f5, f6, f7, f8, f9, f10]))]) hN hA rfl
  refine lv_iload_n hx hb dX7_page_5 rfl (lv_at hl 1 rfl) ?_
  refine zcrS (As := [.int (nI k)]) (rest := []) S (c_X7_isPage l D ca (nI k)) ml_X7_99 zy_X7_isPage st_X7_isPage ⟨Nat.le_of_ble_eq_true rfl, Nat.le_of_ble_eq_true rfl⟩ hK hP [] rfl rfl hl.1 rfl (Nat.le_of_ble_eq_true rfl) ⟨Nat.zero_le _, Nat.zero_le _⟩ dX7_page_6 ?_
  refine zz_ne (tgt := 18) hx hb dX7_page_9 (by decide) (fun _ => ?_) (fun h => False.elim (by revert h; intro h; rw [hin] at h; exact absurd h (by decide)))
  refine lv_iload_n hx hb dX7_page_18 rfl (lv_at hl 2 rfl) ?_
  refine lv_iconst (v := 0) hx hb dX7_page_19 (by decide) ?_
  refine lv_iconst (v := 4) hx hb dX7_page_20 (by decide) ?_
  refine zcrS (As := [.int u, .int 0, .int 4]) (rest := []) S (c_X7_in l D ca u 0 4) ml_X7_26 zy_X7_in st_X7_in ⟨Nat.le_of_ble_eq_true rfl, Nat.le_of_ble_eq_true rfl⟩ hK hP [] rfl rfl hl.1 rfl (Nat.le_of_ble_eq_true rfl) ⟨Nat.zero_le _, Nat.zero_le _⟩ dX7_page_21 ?_
  refine zz_eq (tgt := 36) hx hb dX7_page_24 (by decide) (fun _ => ?_) (fun h => False.elim (by revert h; intro h; rw [hu] at h; exact absurd h (by decide)))
  refine lv_aload_n hx hb dX7_page_36 rfl (lv_at hl 0 rfl) ?_
  refine lv_iconst (v := 2) hx hb dX7_page_37 (by decide) ?_
  refine zcw (As := [.int 2]) (rest := []) (st1 := [.int 0]) (q0 := 0) (lw := [o 0]) S (c_X7_fails l D ca o f1 f2 f3 f4 f5 f6 f7 f8 f9 f10 0  2 (znd_pick hN [0] rfl rfl)) ml_X7_67 zy_X7_fails im_X7_fails se_X7_fails ⟨Nat.le_of_ble_eq_true rfl, Nat.le_of_ble_eq_true rfl⟩ hK hP hD hS [0] rfl rfl rfl rfl rfl rfl rfl hl.1 rfl rfl (Nat.le_of_ble_eq_true rfl) ⟨Nat.zero_le _, Nat.zero_le _⟩ dX7_page_38 (fun H locs hP hS => ?_)
  have hP : va_P D vwCl [(o 0, .inr (7, [.int 2, f1, f2, f3, f4, f5, f6, f7, f8, f9, f10]))] H := hP
  have hD := zDto (ws := [(o 0, .inr (7, [.int 2, f1, f2, f3, f4, f5, f6, f7, f8, f9, f10]))]) hN hA rfl
  exact zw_i hx hb hr hlk hP hS ⟨by rfl, by rfl⟩ dX7_page_41
set_option maxHeartbeats 4000000 in
set_option maxRecDepth 100000 in
theorem c_X7_page_C (l : Launch) (D : va_G) (ca : Nat → ClassId) (o : Nat → Nat) (f2 f3 f4 f5 f6 f7 f8 f9 f10 : Value) (thr : Int32) (sf : Nat → Int32) (k w : Nat) (hk : k < 6) (hw : w < 5) (hN : [o 0, o 1].Nodup) : zMw l yX7_page cX7_page 3 (some .int) 5 114 D ca [(o 0, .inr (7, [.int thr, .ref (o 1), f2, f3, f4, f5, f6, f7, f8, f9, f10])), (o 1, .inl (ca 0, 99, .inl sf))] ([(o 0, .inr (7, [.int 0, .ref (o 1), f2, f3, f4, f5, f6, f7, f8, f9, f10])), (o 1, .inl (ca 0, 99, .inl sf))]) [.ref (o 0), .int (nI k), .int (nI w)] (some (.int (rTp sf k w))) := by
  refine zMw_of (own := RX7) (by decide) rfl (Nat.le_of_ble_eq_true rfl) ?_
  intro p e s m args below meth c ls S hr hlk hP hK hl hS
  have hP : va_P D vwCl [(o 0, .inr (7, [.int thr, .ref (o 1), f2, f3, f4, f5, f6, f7, f8, f9, f10])), (o 1, .inl (ca 0, 99, .inl sf))] s.heap := hP
  have hS : va_S (zA [o 0, o 1]) s.heap s.heap [] := hS
  have hA : ∀ q ∈ [o 0, o 1], zA [o 0, o 1] q := fun _ h => h
  have hD := zDto (ws := [(o 0, .inr (7, [.int thr, .ref (o 1), f2, f3, f4, f5, f6, f7, f8, f9, f10])), (o 1, .inl (ca 0, 99, .inl sf))]) hN hA rfl
  have hx := S.1
  have hb := S.2.1
  have hl : lv_has ls 3 [(0, .ref (o 0)), (1, .int (nI k)), (2, .int (nI w))] := hl
  have hin : rIn (nI k) 0 5 = true := rIn_t (a := 0) (b := 5) (by omega) (by omega) (by decide)
  have hin2 : rIn (nI w) 0 4 = true := rIn_t (a := 0) (b := 4) (by omega) (by omega) (by decide)
  refine lv_aload_n hx hb dX7_page_0 rfl (lv_at hl 0 rfl) ?_
  refine lv_iconst (v := 0) hx hb dX7_page_1 (by decide) ?_
  refine z_put S in_lay_X7 tyX7_ok nmX7 hK hP hD hS rfl 0 rfl 0 (by decide) fl_X7_22 rfl rfl rfl rfl (Nat.le_of_ble_eq_true rfl) dX7_page_2 (fun H locs hP hS => ?_)
  have hP : va_P D vwCl [(o 0, .inr (7, [.int 0, .ref (o 1), f2, f3, f4, f5, f6, f7, f8, f9, f10])), (o 1, .inl (ca 0, 99, .inl sf))] H := hP
  have hD := zDto (ws := [(o 0, .inr (7, [.int 0, .ref (o 1), f2, f3, f4, f5, f6, f7, f8, f9, f10])), (o 1, .inl (ca 0, 99, .inl sf))]) hN hA rfl
  refine lv_iload_n hx hb dX7_page_5 rfl (lv_at hl 1 rfl) ?_
  refine zcrS (As := [.int (nI k)]) (rest := []) S (c_X7_isPage l D ca (nI k)) ml_X7_99 zy_X7_isPage st_X7_isPage ⟨Nat.le_of_ble_eq_true rfl, Nat.le_of_ble_eq_true rfl⟩ hK hP [] rfl rfl hl.1 rfl (Nat.le_of_ble_eq_true rfl) ⟨Nat.zero_le _, Nat.zero_le _⟩ dX7_page_6 ?_
  refine zz_ne (tgt := 18) hx hb dX7_page_9 (by decide) (fun _ => ?_) (fun h => False.elim (by revert h; intro h; rw [hin] at h; exact absurd h (by decide)))
  refine lv_iload_n hx hb dX7_page_18 rfl (lv_at hl 2 rfl) ?_
  refine lv_iconst (v := 0) hx hb dX7_page_19 (by decide) ?_
  refine lv_iconst (v := 4) hx hb dX7_page_20 (by decide) ?_
  refine zcrS (As := [.int (nI w), .int 0, .int 4]) (rest := []) S (c_X7_in l D ca (nI w) 0 4) ml_X7_26 zy_X7_in st_X7_in ⟨Nat.le_of_ble_eq_true rfl, Nat.le_of_ble_eq_true rfl⟩ hK hP [] rfl rfl hl.1 rfl (Nat.le_of_ble_eq_true rfl) ⟨Nat.zero_le _, Nat.zero_le _⟩ dX7_page_21 ?_
  refine zz_eq (tgt := 36) hx hb dX7_page_24 (by decide) (fun h => False.elim (by revert h; intro h; rw [hin2] at h; exact absurd h (by decide))) (fun _ => ?_)
  refine lv_aload_n hx hb dX7_page_27 rfl (lv_at hl 0 rfl) ?_
  refine lv_iload_n hx hb dX7_page_28 rfl (lv_at hl 1 rfl) ?_
  refine lv_iload_n hx hb dX7_page_29 rfl (lv_at hl 2 rfl) ?_
  refine zcr (As := [.int (nI k), .int (nI w)]) (rest := []) (q0 := 0) S (c_X7_tellsPage l D ca o (.int 0) f2 f3 f4 f5 f6 f7 f8 f9 f10 sf k w (by omega) (by omega)) ml_X7_167 zy_X7_tellsPage im_X7_tellsPage se_X7_tellsPage ⟨Nat.le_of_ble_eq_true rfl, Nat.le_of_ble_eq_true rfl⟩ hK hP [0, 1] rfl rfl rfl rfl rfl hl.1 rfl (Nat.le_of_ble_eq_true rfl) ⟨Nat.zero_le _, Nat.zero_le _⟩ dX7_page_30 ?_
  refine lv_goto (tgt := 41) hx hb dX7_page_33 (by decide) ?_
  exact zw_i hx hb hr hlk hP hS ⟨by rfl, by rfl⟩ dX7_page_41
set_option maxHeartbeats 4000000 in
set_option maxRecDepth 100000 in
theorem c_X7_asker_A (l : Launch) (D : va_G) (ca : Nat → ClassId) (o : Nat → Nat) (f1 f2 f3 f4 f5 f6 f7 f8 f9 f10 : Value) (thr : Int32) (v u : Int32) (hv : rIn v 0 3 = false) (hN : [o 0].Nodup) : zMw l yX7_asker cX7_asker 3 (some .int) 2 42 D ca [(o 0, .inr (7, [.int thr, f1, f2, f3, f4, f5, f6, f7, f8, f9, f10]))] ([(o 0, .inr (7, [.int 1, f1, f2, f3, f4, f5, f6, f7, f8, f9, f10]))]) [.ref (o 0), .int v, .int u] (some (.int 0)) := by
  refine zMw_of (own := RX7) (by decide) rfl (Nat.le_of_ble_eq_true rfl) ?_
  intro p e s m args below meth c ls S hr hlk hP hK hl hS
  have hP : va_P D vwCl [(o 0, .inr (7, [.int thr, f1, f2, f3, f4, f5, f6, f7, f8, f9, f10]))] s.heap := hP
  have hS : va_S (zA [o 0]) s.heap s.heap [] := hS
  have hA : ∀ q ∈ [o 0], zA [o 0] q := fun _ h => h
  have hD := zDto (ws := [(o 0, .inr (7, [.int thr, f1, f2, f3, f4, f5, f6, f7, f8, f9, f10]))]) hN hA rfl
  have hx := S.1
  have hb := S.2.1
  have hl : lv_has ls 3 [(0, .ref (o 0)), (1, .int v), (2, .int u)] := hl
  refine lv_aload_n hx hb dX7_asker_0 rfl (lv_at hl 0 rfl) ?_
  refine lv_iconst (v := 0) hx hb dX7_asker_1 (by decide) ?_
  refine z_put S in_lay_X7 tyX7_ok nmX7 hK hP hD hS rfl 0 rfl 0 (by decide) fl_X7_22 rfl rfl rfl rfl (Nat.le_of_ble_eq_true rfl) dX7_asker_2 (fun H locs hP hS => ?_)
  have hP : va_P D vwCl [(o 0, .inr (7, [.int 0, f1, f2, f3, f4, f5, f6, f7, f8, f9, f10]))] H := hP
  have hD := zDto (ws := [(o 0, .inr (7, [.int 0, f1, f2, f3, f4, f5, f6, f7, f8, f9, f10]))]) hN hA rfl
  refine lv_iload_n hx hb dX7_asker_5 rfl (lv_at hl 1 rfl) ?_
  refine zcrS (As := [.int v]) (rest := []) S (c_X7_isAsker l D ca v) ml_X7_87 zy_X7_isAsker st_X7_isAsker ⟨Nat.le_of_ble_eq_true rfl, Nat.le_of_ble_eq_true rfl⟩ hK hP [] rfl rfl hl.1 rfl (Nat.le_of_ble_eq_true rfl) ⟨Nat.zero_le _, Nat.zero_le _⟩ dX7_asker_6 ?_
  refine zz_ne (tgt := 18) hx hb dX7_asker_9 (by decide) (fun h => False.elim (by revert h; intro h; rw [hv] at h; exact absurd h (by decide))) (fun _ => ?_)
  refine lv_aload_n hx hb dX7_asker_12 rfl (lv_at hl 0 rfl) ?_
  refine lv_iconst (v := 1) hx hb dX7_asker_13 (by decide) ?_
  refine zcw (As := [.int 1]) (rest := []) (st1 := [.int 0]) (q0 := 0) (lw := [o 0]) S (c_X7_fails l D ca o f1 f2 f3 f4 f5 f6 f7 f8 f9 f10 0  1 (znd_pick hN [0] rfl rfl)) ml_X7_67 zy_X7_fails im_X7_fails se_X7_fails ⟨Nat.le_of_ble_eq_true rfl, Nat.le_of_ble_eq_true rfl⟩ hK hP hD hS [0] rfl rfl rfl rfl rfl rfl rfl hl.1 rfl rfl (Nat.le_of_ble_eq_true rfl) ⟨Nat.zero_le _, Nat.zero_le _⟩ dX7_asker_14 (fun H locs hP hS => ?_)
  have hP : va_P D vwCl [(o 0, .inr (7, [.int 1, f1, f2, f3, f4, f5, f6, f7, f8, f9, f10]))] H := hP
  have hD := zDto (ws := [(o 0, .inr (7, [.int 1, f1, f2, f3, f4, f5, f6, f7, f8, f9, f10]))]) hN hA rfl
  exact zw_i hx hb hr hlk hP hS ⟨by rfl, by rfl⟩ dX7_asker_17
set_option maxHeartbeats 4000000 in
set_option maxRecDepth 100000 in
theorem c_X7_asker_B (l : Launch) (D : va_G) (ca : Nat → ClassId) (o : Nat → Nat) (f1 f2 f3 f4 f5 f6 f7 f8 f9 f10 : Value) (thr : Int32) (k : Nat) (hk : k < 4) (u : Int32) (hu : rIn u 0 2 = false) (hN : [o 0].Nodup) : zMw l yX7_asker cX7_asker 3 (some .int) 2 42 D ca [(o 0, .inr (7, [.int thr, f1, f2, f3, f4, f5, f6, f7, f8, f9, f10]))] ([(o 0, .inr (7, [.int 2, f1, f2, f3, f4, f5, f6, f7, f8, f9, f10]))]) [.ref (o 0), .int (nI k), .int u] (some (.int 0)) := by
  refine zMw_of (own := RX7) (by decide) rfl (Nat.le_of_ble_eq_true rfl) ?_
  intro p e s m args below meth c ls S hr hlk hP hK hl hS
  have hP : va_P D vwCl [(o 0, .inr (7, [.int thr, f1, f2, f3, f4, f5, f6, f7, f8, f9, f10]))] s.heap := hP
  have hS : va_S (zA [o 0]) s.heap s.heap [] := hS
  have hA : ∀ q ∈ [o 0], zA [o 0] q := fun _ h => h
  have hD := zDto (ws := [(o 0, .inr (7, [.int thr, f1, f2, f3, f4, f5, f6, f7, f8, f9, f10]))]) hN hA rfl
  have hx := S.1
  have hb := S.2.1
  have hl : lv_has ls 3 [(0, .ref (o 0)), (1, .int (nI k)), (2, .int u)] := hl
  have hin : rIn (nI k) 0 3 = true := rIn_t (a := 0) (b := 3) (by omega) (by omega) (by decide)
  refine lv_aload_n hx hb dX7_asker_0 rfl (lv_at hl 0 rfl) ?_
  refine lv_iconst (v := 0) hx hb dX7_asker_1 (by decide) ?_
  refine z_put S in_lay_X7 tyX7_ok nmX7 hK hP hD hS rfl 0 rfl 0 (by decide) fl_X7_22 rfl rfl rfl rfl (Nat.le_of_ble_eq_true rfl) dX7_asker_2 (fun H locs hP hS => ?_)
  have hP : va_P D vwCl [(o 0, .inr (7, [.int 0, f1, f2, f3, f4, f5, f6, f7, f8, f9, f10]))] H := hP
  have hD := zDto (ws := [(o 0, .inr (7, [.int 0, f1, f2, f3, f4, f5, f6, f7, f8, f9, f10]))]) hN hA rfl
  refine lv_iload_n hx hb dX7_asker_5 rfl (lv_at hl 1 rfl) ?_
  refine zcrS (As := [.int (nI k)]) (rest := []) S (c_X7_isAsker l D ca (nI k)) ml_X7_87 zy_X7_isAsker st_X7_isAsker ⟨Nat.le_of_ble_eq_true rfl, Nat.le_of_ble_eq_true rfl⟩ hK hP [] rfl rfl hl.1 rfl (Nat.le_of_ble_eq_true rfl) ⟨Nat.zero_le _, Nat.zero_le _⟩ dX7_asker_6 ?_
  refine zz_ne (tgt := 18) hx hb dX7_asker_9 (by decide) (fun _ => ?_) (fun h => False.elim (by revert h; intro h; rw [hin] at h; exact absurd h (by decide)))
  refine lv_iload_n hx hb dX7_asker_18 rfl (lv_at hl 2 rfl) ?_
  refine lv_iconst (v := 0) hx hb dX7_asker_19 (by decide) ?_
  refine lv_iconst (v := 2) hx hb dX7_asker_20 (by decide) ?_
  refine zcrS (As := [.int u, .int 0, .int 2]) (rest := []) S (c_X7_in l D ca u 0 2) ml_X7_26 zy_X7_in st_X7_in ⟨Nat.le_of_ble_eq_true rfl, Nat.le_of_ble_eq_true rfl⟩ hK hP [] rfl rfl hl.1 rfl (Nat.le_of_ble_eq_true rfl) ⟨Nat.zero_le _, Nat.zero_le _⟩ dX7_asker_21 ?_
  refine zz_eq (tgt := 36) hx hb dX7_asker_24 (by decide) (fun _ => ?_) (fun h => False.elim (by revert h; intro h; rw [hu] at h; exact absurd h (by decide)))
  refine lv_aload_n hx hb dX7_asker_36 rfl (lv_at hl 0 rfl) ?_
  refine lv_iconst (v := 2) hx hb dX7_asker_37 (by decide) ?_
  refine zcw (As := [.int 2]) (rest := []) (st1 := [.int 0]) (q0 := 0) (lw := [o 0]) S (c_X7_fails l D ca o f1 f2 f3 f4 f5 f6 f7 f8 f9 f10 0  2 (znd_pick hN [0] rfl rfl)) ml_X7_67 zy_X7_fails im_X7_fails se_X7_fails ⟨Nat.le_of_ble_eq_true rfl, Nat.le_of_ble_eq_true rfl⟩ hK hP hD hS [0] rfl rfl rfl rfl rfl rfl rfl hl.1 rfl rfl (Nat.le_of_ble_eq_true rfl) ⟨Nat.zero_le _, Nat.zero_le _⟩ dX7_asker_38 (fun H locs hP hS => ?_)
  have hP : va_P D vwCl [(o 0, .inr (7, [.int 2, f1, f2, f3, f4, f5, f6, f7, f8, f9, f10]))] H := hP
  have hD := zDto (ws := [(o 0, .inr (7, [.int 2, f1, f2, f3, f4, f5, f6, f7, f8, f9, f10]))]) hN hA rfl
  exact zw_i hx hb hr hlk hP hS ⟨by rfl, by rfl⟩ dX7_asker_41
set_option maxHeartbeats 4000000 in
set_option maxRecDepth 100000 in
theorem c_X7_asker_C (l : Launch) (D : va_G) (ca : Nat → ClassId) (o : Nat → Nat) (f2 f3 f4 f5 f6 f7 f8 f9 f10 : Value) (thr : Int32) (sf : Nat → Int32) (k w : Nat) (hk : k < 4) (hw : w < 3) (hN : [o 0, o 1].Nodup) : zMw l yX7_asker cX7_asker 3 (some .int) 5 115 D ca [(o 0, .inr (7, [.int thr, .ref (o 1), f2, f3, f4, f5, f6, f7, f8, f9, f10])), (o 1, .inl (ca 0, 99, .inl sf))] ([(o 0, .inr (7, [.int 0, .ref (o 1), f2, f3, f4, f5, f6, f7, f8, f9, f10])), (o 1, .inl (ca 0, 99, .inl sf))]) [.ref (o 0), .int (nI k), .int (nI w)] (some (.int (rTa sf k w))) := by
  refine zMw_of (own := RX7) (by decide) rfl (Nat.le_of_ble_eq_true rfl) ?_
  intro p e s m args below meth c ls S hr hlk hP hK hl hS
  have hP : va_P D vwCl [(o 0, .inr (7, [.int thr, .ref (o 1), f2, f3, f4, f5, f6, f7, f8, f9, f10])), (o 1, .inl (ca 0, 99, .inl sf))] s.heap := hP
  have hS : va_S (zA [o 0, o 1]) s.heap s.heap [] := hS
  have hA : ∀ q ∈ [o 0, o 1], zA [o 0, o 1] q := fun _ h => h
  have hD := zDto (ws := [(o 0, .inr (7, [.int thr, .ref (o 1), f2, f3, f4, f5, f6, f7, f8, f9, f10])), (o 1, .inl (ca 0, 99, .inl sf))]) hN hA rfl
  have hx := S.1
  have hb := S.2.1
  have hl : lv_has ls 3 [(0, .ref (o 0)), (1, .int (nI k)), (2, .int (nI w))] := hl
  have hin : rIn (nI k) 0 3 = true := rIn_t (a := 0) (b := 3) (by omega) (by omega) (by decide)
  have hin2 : rIn (nI w) 0 2 = true := rIn_t (a := 0) (b := 2) (by omega) (by omega) (by decide)
  refine lv_aload_n hx hb dX7_asker_0 rfl (lv_at hl 0 rfl) ?_
  refine lv_iconst (v := 0) hx hb dX7_asker_1 (by decide) ?_
  refine z_put S in_lay_X7 tyX7_ok nmX7 hK hP hD hS rfl 0 rfl 0 (by decide) fl_X7_22 rfl rfl rfl rfl (Nat.le_of_ble_eq_true rfl) dX7_asker_2 (fun H locs hP hS => ?_)
  have hP : va_P D vwCl [(o 0, .inr (7, [.int 0, .ref (o 1), f2, f3, f4, f5, f6, f7, f8, f9, f10])), (o 1, .inl (ca 0, 99, .inl sf))] H := hP
  have hD := zDto (ws := [(o 0, .inr (7, [.int 0, .ref (o 1), f2, f3, f4, f5, f6, f7, f8, f9, f10])), (o 1, .inl (ca 0, 99, .inl sf))]) hN hA rfl
  refine lv_iload_n hx hb dX7_asker_5 rfl (lv_at hl 1 rfl) ?_
  refine zcrS (As := [.int (nI k)]) (rest := []) S (c_X7_isAsker l D ca (nI k)) ml_X7_87 zy_X7_isAsker st_X7_isAsker ⟨Nat.le_of_ble_eq_true rfl, Nat.le_of_ble_eq_true rfl⟩ hK hP [] rfl rfl hl.1 rfl (Nat.le_of_ble_eq_true rfl) ⟨Nat.zero_le _, Nat.zero_le _⟩ dX7_asker_6 ?_
  refine zz_ne (tgt := 18) hx hb dX7_asker_9 (by decide) (fun _ => ?_) (fun h => False.elim (by revert h; intro h; rw [hin] at h; exact absurd h (by decide)))
  refine lv_iload_n hx hb dX7_asker_18 rfl (lv_at hl 2 rfl) ?_
  refine lv_iconst (v := 0) hx hb dX7_asker_19 (by decide) ?_
  refine lv_iconst (v := 2) hx hb dX7_asker_20 (by decide) ?_
  refine zcrS (As := [.int (nI w), .int 0, .int 2]) (rest := []) S (c_X7_in l D ca (nI w) 0 2) ml_X7_26 zy_X7_in st_X7_in ⟨Nat.le_of_ble_eq_true rfl, Nat.le_of_ble_eq_true rfl⟩ hK hP [] rfl rfl hl.1 rfl (Nat.le_of_ble_eq_true rfl) ⟨Nat.zero_le _, Nat.zero_le _⟩ dX7_asker_21 ?_
  refine zz_eq (tgt := 36) hx hb dX7_asker_24 (by decide) (fun h => False.elim (by revert h; intro h; rw [hin2] at h; exact absurd h (by decide))) (fun _ => ?_)
  refine lv_aload_n hx hb dX7_asker_27 rfl (lv_at hl 0 rfl) ?_
  refine lv_iload_n hx hb dX7_asker_28 rfl (lv_at hl 1 rfl) ?_
  refine lv_iload_n hx hb dX7_asker_29 rfl (lv_at hl 2 rfl) ?_
  refine zcr (As := [.int (nI k), .int (nI w)]) (rest := []) (q0 := 0) S (c_X7_tellsAsker l D ca o (.int 0) f2 f3 f4 f5 f6 f7 f8 f9 f10 sf k w (by omega) (by omega)) ml_X7_170 zy_X7_tellsAsker im_X7_tellsAsker se_X7_tellsAsker ⟨Nat.le_of_ble_eq_true rfl, Nat.le_of_ble_eq_true rfl⟩ hK hP [0, 1] rfl rfl rfl rfl rfl hl.1 rfl (Nat.le_of_ble_eq_true rfl) ⟨Nat.zero_le _, Nat.zero_le _⟩ dX7_asker_30 ?_
  refine lv_goto (tgt := 41) hx hb dX7_asker_33 (by decide) ?_
  exact zw_i hx hb hr hlk hP hS ⟨by rfl, by rfl⟩ dX7_asker_41
set_option maxHeartbeats 4000000 in
set_option maxRecDepth 100000 in
theorem c_X7_count_A (l : Launch) (D : va_G) (ca : Nat → ClassId) (o : Nat → Nat) (f1 f2 f3 f4 f5 f6 f7 f8 f9 f10 : Value) (thr : Int32) (v : Int32) (hv : rIn v 0 12 = false) (hN : [o 0].Nodup) : zMw l yX7_count cX7_count 2 (some .int) 1 22 D ca [(o 0, .inr (7, [.int thr, f1, f2, f3, f4, f5, f6, f7, f8, f9, f10]))] ([(o 0, .inr (7, [.int 1, f1, f2, f3, f4, f5, f6, f7, f8, f9, f10]))]) [.ref (o 0), .int v] (some (.int 0)) := by
  refine zMw_of (own := RX7) (by decide) rfl (Nat.le_of_ble_eq_true rfl) ?_
  intro p e s m args below meth c ls S hr hlk hP hK hl hS
  have hP : va_P D vwCl [(o 0, .inr (7, [.int thr, f1, f2, f3, f4, f5, f6, f7, f8, f9, f10]))] s.heap := hP
  have hS : va_S (zA [o 0]) s.heap s.heap [] := hS
  have hA : ∀ q ∈ [o 0], zA [o 0] q := fun _ h => h
  have hD := zDto (ws := [(o 0, .inr (7, [.int thr, f1, f2, f3, f4, f5, f6, f7, f8, f9, f10]))]) hN hA rfl
  have hx := S.1
  have hb := S.2.1
  have hl : lv_has ls 2 [(0, .ref (o 0)), (1, .int v)] := hl
  refine lv_aload_n hx hb dX7_count_0 rfl (lv_at hl 0 rfl) ?_
  refine lv_iconst (v := 0) hx hb dX7_count_1 (by decide) ?_
  refine z_put S in_lay_X7 tyX7_ok nmX7 hK hP hD hS rfl 0 rfl 0 (by decide) fl_X7_22 rfl rfl rfl rfl (Nat.le_of_ble_eq_true rfl) dX7_count_2 (fun H locs hP hS => ?_)
  have hP : va_P D vwCl [(o 0, .inr (7, [.int 0, f1, f2, f3, f4, f5, f6, f7, f8, f9, f10]))] H := hP
  have hD := zDto (ws := [(o 0, .inr (7, [.int 0, f1, f2, f3, f4, f5, f6, f7, f8, f9, f10]))]) hN hA rfl
  refine lv_iload_n hx hb dX7_count_5 rfl (lv_at hl 1 rfl) ?_
  refine lv_iconst (v := 0) hx hb dX7_count_6 (by decide) ?_
  refine lv_bipush (v := 12) hx hb dX7_count_7 (by decide) ?_
  refine zcrS (As := [.int v, .int 0, .int 12]) (rest := []) S (c_X7_in l D ca v 0 12) ml_X7_26 zy_X7_in st_X7_in ⟨Nat.le_of_ble_eq_true rfl, Nat.le_of_ble_eq_true rfl⟩ hK hP [] rfl rfl hl.1 rfl (Nat.le_of_ble_eq_true rfl) ⟨Nat.zero_le _, Nat.zero_le _⟩ dX7_count_9 ?_
  refine zz_eq (tgt := 23) hx hb dX7_count_12 (by decide) (fun _ => ?_) (fun h => False.elim (by revert h; intro h; rw [hv] at h; exact absurd h (by decide)))
  refine lv_aload_n hx hb dX7_count_23 rfl (lv_at hl 0 rfl) ?_
  refine lv_iconst (v := 1) hx hb dX7_count_24 (by decide) ?_
  refine zcw (As := [.int 1]) (rest := []) (st1 := [.int 0]) (q0 := 0) (lw := [o 0]) S (c_X7_fails l D ca o f1 f2 f3 f4 f5 f6 f7 f8 f9 f10 0  1 (znd_pick hN [0] rfl rfl)) ml_X7_67 zy_X7_fails im_X7_fails se_X7_fails ⟨Nat.le_of_ble_eq_true rfl, Nat.le_of_ble_eq_true rfl⟩ hK hP hD hS [0] rfl rfl rfl rfl rfl rfl rfl hl.1 rfl rfl (Nat.le_of_ble_eq_true rfl) ⟨Nat.zero_le _, Nat.zero_le _⟩ dX7_count_25 (fun H locs hP hS => ?_)
  have hP : va_P D vwCl [(o 0, .inr (7, [.int 1, f1, f2, f3, f4, f5, f6, f7, f8, f9, f10]))] H := hP
  have hD := zDto (ws := [(o 0, .inr (7, [.int 1, f1, f2, f3, f4, f5, f6, f7, f8, f9, f10]))]) hN hA rfl
  exact zw_i hx hb hr hlk hP hS ⟨by rfl, by rfl⟩ dX7_count_28
set_option maxHeartbeats 4000000 in
set_option maxRecDepth 100000 in
theorem c_X7_count_C (l : Launch) (D : va_G) (ca : Nat → ClassId) (o : Nat → Nat) (f2 f4 f5 f6 f7 f8 f9 f10 : Value) (thr : Int32) (mm : Nat) (sf : Nat → Int32) (h0 : mm ≤ 6) (w : Nat) (hw : w < 13) (hN : [o 0, o 1].Nodup) : zMw l yX7_count cX7_count 2 (some .int) 5 113 D ca [(o 0, .inr (7, [.int thr, .ref (o 1), f2, .int (nI mm), f4, f5, f6, f7, f8, f9, f10])), (o 1, .inl (ca 0, 99, .inl sf))] ([(o 0, .inr (7, [.int 0, .ref (o 1), f2, .int (nI mm), f4, f5, f6, f7, f8, f9, f10])), (o 1, .inl (ca 0, 99, .inl sf))]) [.ref (o 0), .int (nI w)] (some (.int (rTc sf mm w))) := by
  refine zMw_of (own := RX7) (by decide) rfl (Nat.le_of_ble_eq_true rfl) ?_
  intro p e s m args below meth c ls S hr hlk hP hK hl hS
  have hP : va_P D vwCl [(o 0, .inr (7, [.int thr, .ref (o 1), f2, .int (nI mm), f4, f5, f6, f7, f8, f9, f10])), (o 1, .inl (ca 0, 99, .inl sf))] s.heap := hP
  have hS : va_S (zA [o 0, o 1]) s.heap s.heap [] := hS
  have hA : ∀ q ∈ [o 0, o 1], zA [o 0, o 1] q := fun _ h => h
  have hD := zDto (ws := [(o 0, .inr (7, [.int thr, .ref (o 1), f2, .int (nI mm), f4, f5, f6, f7, f8, f9, f10])), (o 1, .inl (ca 0, 99, .inl sf))]) hN hA rfl
  have hx := S.1
  have hb := S.2.1
  have hl : lv_has ls 2 [(0, .ref (o 0)), (1, .int (nI w))] := hl
  have hin : rIn (nI w) 0 12 = true := rIn_t (a := 0) (b := 12) (by omega) (by omega) (by decide)
  refine lv_aload_n hx hb dX7_count_0 rfl (lv_at hl 0 rfl) ?_
  refine lv_iconst (v := 0) hx hb dX7_count_1 (by decide) ?_
  refine z_put S in_lay_X7 tyX7_ok nmX7 hK hP hD hS rfl 0 rfl 0 (by decide) fl_X7_22 rfl rfl rfl rfl (Nat.le_of_ble_eq_true rfl) dX7_count_2 (fun H locs hP hS => ?_)
  have hP : va_P D vwCl [(o 0, .inr (7, [.int 0, .ref (o 1), f2, .int (nI mm), f4, f5, f6, f7, f8, f9, f10])), (o 1, .inl (ca 0, 99, .inl sf))] H := hP
  have hD := zDto (ws := [(o 0, .inr (7, [.int 0, .ref (o 1), f2, .int (nI mm), f4, f5, f6, f7, f8, f9, f10])), (o 1, .inl (ca 0, 99, .inl sf))]) hN hA rfl
  refine lv_iload_n hx hb dX7_count_5 rfl (lv_at hl 1 rfl) ?_
  refine lv_iconst (v := 0) hx hb dX7_count_6 (by decide) ?_
  refine lv_bipush (v := 12) hx hb dX7_count_7 (by decide) ?_
  refine zcrS (As := [.int (nI w), .int 0, .int 12]) (rest := []) S (c_X7_in l D ca (nI w) 0 12) ml_X7_26 zy_X7_in st_X7_in ⟨Nat.le_of_ble_eq_true rfl, Nat.le_of_ble_eq_true rfl⟩ hK hP [] rfl rfl hl.1 rfl (Nat.le_of_ble_eq_true rfl) ⟨Nat.zero_le _, Nat.zero_le _⟩ dX7_count_9 ?_
  refine zz_eq (tgt := 23) hx hb dX7_count_12 (by decide) (fun h => False.elim (by revert h; intro h; rw [hin] at h; exact absurd h (by decide))) (fun _ => ?_)
  refine lv_aload_n hx hb dX7_count_15 rfl (lv_at hl 0 rfl) ?_
  refine lv_iload_n hx hb dX7_count_16 rfl (lv_at hl 1 rfl) ?_
  refine zcr (As := [.int (nI w)]) (rest := []) (q0 := 0) S (c_X7_tellsCount l D ca o (.int 0) f2 f4 f5 f6 f7 f8 f9 f10 mm (by omega) sf w (by omega)) ml_X7_173 zy_X7_tellsCount im_X7_tellsCount se_X7_tellsCount ⟨Nat.le_of_ble_eq_true rfl, Nat.le_of_ble_eq_true rfl⟩ hK hP [0, 1] rfl rfl rfl rfl rfl hl.1 rfl (Nat.le_of_ble_eq_true rfl) ⟨Nat.zero_le _, Nat.zero_le _⟩ dX7_count_17 ?_
  refine lv_goto (tgt := 28) hx hb dX7_count_20 (by decide) ?_
  exact zw_i hx hb hr hlk hP hS ⟨by rfl, by rfl⟩ dX7_count_28
set_option maxHeartbeats 4000000 in
set_option maxRecDepth 100000 in
theorem c_X7_lies_A (l : Launch) (D : va_G) (ca : Nat → ClassId) (o : Nat → Nat) (f1 f2 f3 f4 f5 f6 f7 f8 f9 f10 : Value) (thr : Int32) (v : Int32) (hv : rIn v 0 9 = false) (hN : [o 0].Nodup) : zMw l yX7_lies cX7_lies 2 (some .int) 1 22 D ca [(o 0, .inr (7, [.int thr, f1, f2, f3, f4, f5, f6, f7, f8, f9, f10]))] ([(o 0, .inr (7, [.int 1, f1, f2, f3, f4, f5, f6, f7, f8, f9, f10]))]) [.ref (o 0), .int v] (some (.int 0)) := by
  refine zMw_of (own := RX7) (by decide) rfl (Nat.le_of_ble_eq_true rfl) ?_
  intro p e s m args below meth c ls S hr hlk hP hK hl hS
  have hP : va_P D vwCl [(o 0, .inr (7, [.int thr, f1, f2, f3, f4, f5, f6, f7, f8, f9, f10]))] s.heap := hP
  have hS : va_S (zA [o 0]) s.heap s.heap [] := hS
  have hA : ∀ q ∈ [o 0], zA [o 0] q := fun _ h => h
  have hD := zDto (ws := [(o 0, .inr (7, [.int thr, f1, f2, f3, f4, f5, f6, f7, f8, f9, f10]))]) hN hA rfl
  have hx := S.1
  have hb := S.2.1
  have hl : lv_has ls 2 [(0, .ref (o 0)), (1, .int v)] := hl
  refine lv_aload_n hx hb dX7_lies_0 rfl (lv_at hl 0 rfl) ?_
  refine lv_iconst (v := 0) hx hb dX7_lies_1 (by decide) ?_
  refine z_put S in_lay_X7 tyX7_ok nmX7 hK hP hD hS rfl 0 rfl 0 (by decide) fl_X7_22 rfl rfl rfl rfl (Nat.le_of_ble_eq_true rfl) dX7_lies_2 (fun H locs hP hS => ?_)
  have hP : va_P D vwCl [(o 0, .inr (7, [.int 0, f1, f2, f3, f4, f5, f6, f7, f8, f9, f10]))] H := hP
  have hD := zDto (ws := [(o 0, .inr (7, [.int 0, f1, f2, f3, f4, f5, f6, f7, f8, f9, f10]))]) hN hA rfl
  refine lv_iload_n hx hb dX7_lies_5 rfl (lv_at hl 1 rfl) ?_
  refine lv_iconst (v := 0) hx hb dX7_lies_6 (by decide) ?_
  refine lv_bipush (v := 9) hx hb dX7_lies_7 (by decide) ?_
  refine zcrS (As := [.int v, .int 0, .int 9]) (rest := []) S (c_X7_in l D ca v 0 9) ml_X7_26 zy_X7_in st_X7_in ⟨Nat.le_of_ble_eq_true rfl, Nat.le_of_ble_eq_true rfl⟩ hK hP [] rfl rfl hl.1 rfl (Nat.le_of_ble_eq_true rfl) ⟨Nat.zero_le _, Nat.zero_le _⟩ dX7_lies_9 ?_
  refine zz_eq (tgt := 23) hx hb dX7_lies_12 (by decide) (fun _ => ?_) (fun h => False.elim (by revert h; intro h; rw [hv] at h; exact absurd h (by decide)))
  refine lv_aload_n hx hb dX7_lies_23 rfl (lv_at hl 0 rfl) ?_
  refine lv_iconst (v := 1) hx hb dX7_lies_24 (by decide) ?_
  refine zcw (As := [.int 1]) (rest := []) (st1 := [.int 0]) (q0 := 0) (lw := [o 0]) S (c_X7_fails l D ca o f1 f2 f3 f4 f5 f6 f7 f8 f9 f10 0  1 (znd_pick hN [0] rfl rfl)) ml_X7_67 zy_X7_fails im_X7_fails se_X7_fails ⟨Nat.le_of_ble_eq_true rfl, Nat.le_of_ble_eq_true rfl⟩ hK hP hD hS [0] rfl rfl rfl rfl rfl rfl rfl hl.1 rfl rfl (Nat.le_of_ble_eq_true rfl) ⟨Nat.zero_le _, Nat.zero_le _⟩ dX7_lies_25 (fun H locs hP hS => ?_)
  have hP : va_P D vwCl [(o 0, .inr (7, [.int 1, f1, f2, f3, f4, f5, f6, f7, f8, f9, f10]))] H := hP
  have hD := zDto (ws := [(o 0, .inr (7, [.int 1, f1, f2, f3, f4, f5, f6, f7, f8, f9, f10]))]) hN hA rfl
  exact zw_i hx hb hr hlk hP hS ⟨by rfl, by rfl⟩ dX7_lies_28
set_option maxHeartbeats 4000000 in
set_option maxRecDepth 100000 in
theorem c_X7_lies_C (l : Launch) (D : va_G) (ca : Nat → ClassId) (o : Nat → Nat) (f2 f3 f4 f5 f6 f7 f8 f9 f10 : Value) (thr : Int32) (sf : Nat → Int32) (v : Int32) (hv : rIn v 0 9 = true) (hN : [o 0, o 1].Nodup) : zMw l yX7_lies cX7_lies 2 (some .int) 4 89 D ca [(o 0, .inr (7, [.int thr, .ref (o 1), f2, f3, f4, f5, f6, f7, f8, f9, f10])), (o 1, .inl (ca 0, 99, .inl sf))] ([(o 0, .inr (7, [.int 0, .ref (o 1), f2, f3, f4, f5, f6, f7, f8, f9, f10])), (o 1, .inl (ca 0, 99, .inl sf))]) [.ref (o 0), .int v] (some (.int (rLie sf v))) := by
  refine zMw_of (own := RX7) (by decide) rfl (Nat.le_of_ble_eq_true rfl) ?_
  intro p e s m args below meth c ls S hr hlk hP hK hl hS
  have hP : va_P D vwCl [(o 0, .inr (7, [.int thr, .ref (o 1), f2, f3, f4, f5, f6, f7, f8, f9, f10])), (o 1, .inl (ca 0, 99, .inl sf))] s.heap := hP
  have hS : va_S (zA [o 0, o 1]) s.heap s.heap [] := hS
  have hA : ∀ q ∈ [o 0, o 1], zA [o 0, o 1] q := fun _ h => h
  have hD := zDto (ws := [(o 0, .inr (7, [.int thr, .ref (o 1), f2, f3, f4, f5, f6, f7, f8, f9, f10])), (o 1, .inl (ca 0, 99, .inl sf))]) hN hA rfl
  have hx := S.1
  have hb := S.2.1
  have hl : lv_has ls 2 [(0, .ref (o 0)), (1, .int v)] := hl
  refine lv_aload_n hx hb dX7_lies_0 rfl (lv_at hl 0 rfl) ?_
  refine lv_iconst (v := 0) hx hb dX7_lies_1 (by decide) ?_
  refine z_put S in_lay_X7 tyX7_ok nmX7 hK hP hD hS rfl 0 rfl 0 (by decide) fl_X7_22 rfl rfl rfl rfl (Nat.le_of_ble_eq_true rfl) dX7_lies_2 (fun H locs hP hS => ?_)
  have hP : va_P D vwCl [(o 0, .inr (7, [.int 0, .ref (o 1), f2, f3, f4, f5, f6, f7, f8, f9, f10])), (o 1, .inl (ca 0, 99, .inl sf))] H := hP
  have hD := zDto (ws := [(o 0, .inr (7, [.int 0, .ref (o 1), f2, f3, f4, f5, f6, f7, f8, f9, f10])), (o 1, .inl (ca 0, 99, .inl sf))]) hN hA rfl
  refine lv_iload_n hx hb dX7_lies_5 rfl (lv_at hl 1 rfl) ?_
  refine lv_iconst (v := 0) hx hb dX7_lies_6 (by decide) ?_
  refine lv_bipush (v := 9) hx hb dX7_lies_7 (by decide) ?_
  refine zcrS (As := [.int v, .int 0, .int 9]) (rest := []) S (c_X7_in l D ca v 0 9) ml_X7_26 zy_X7_in st_X7_in ⟨Nat.le_of_ble_eq_true rfl, Nat.le_of_ble_eq_true rfl⟩ hK hP [] rfl rfl hl.1 rfl (Nat.le_of_ble_eq_true rfl) ⟨Nat.zero_le _, Nat.zero_le _⟩ dX7_lies_9 ?_
  refine zz_eq (tgt := 23) hx hb dX7_lies_12 (by decide) (fun h => False.elim (by revert h; intro h; rw [hv] at h; exact absurd h (by decide))) (fun _ => ?_)
  refine lv_aload_n hx hb dX7_lies_15 rfl (lv_at hl 0 rfl) ?_
  refine lv_iload_n hx hb dX7_lies_16 rfl (lv_at hl 1 rfl) ?_
  refine zcr (As := [.int v]) (rest := []) (q0 := 0) S (c_X7_tellsLies l D ca o (.int 0) f2 f3 f4 f5 f6 f7 f8 f9 f10 sf v) ml_X7_176 zy_X7_tellsLies im_X7_tellsLies se_X7_tellsLies ⟨Nat.le_of_ble_eq_true rfl, Nat.le_of_ble_eq_true rfl⟩ hK hP [0, 1] rfl rfl rfl rfl rfl hl.1 rfl (Nat.le_of_ble_eq_true rfl) ⟨Nat.zero_le _, Nat.zero_le _⟩ dX7_lies_17 ?_
  refine lv_goto (tgt := 28) hx hb dX7_lies_20 (by decide) ?_
  exact zw_i hx hb hr hlk hP hS ⟨by rfl, by rfl⟩ dX7_lies_28
set_option maxHeartbeats 4000000 in
set_option maxRecDepth 100000 in
theorem c_X7_cheapest_A (l : Launch) (D : va_G) (ca : Nat → ClassId) (o : Nat → Nat) (f1 f2 f3 f4 f5 f6 f7 f8 f9 f10 : Value) (thr : Int32) (v : Int32) (hv : rIn v 0 9 = false) (hN : [o 0].Nodup) : zMw l yX7_cheapest cX7_cheapest 2 (some .int) 1 22 D ca [(o 0, .inr (7, [.int thr, f1, f2, f3, f4, f5, f6, f7, f8, f9, f10]))] ([(o 0, .inr (7, [.int 1, f1, f2, f3, f4, f5, f6, f7, f8, f9, f10]))]) [.ref (o 0), .int v] (some (.int 0)) := by
  refine zMw_of (own := RX7) (by decide) rfl (Nat.le_of_ble_eq_true rfl) ?_
  intro p e s m args below meth c ls S hr hlk hP hK hl hS
  have hP : va_P D vwCl [(o 0, .inr (7, [.int thr, f1, f2, f3, f4, f5, f6, f7, f8, f9, f10]))] s.heap := hP
  have hS : va_S (zA [o 0]) s.heap s.heap [] := hS
  have hA : ∀ q ∈ [o 0], zA [o 0] q := fun _ h => h
  have hD := zDto (ws := [(o 0, .inr (7, [.int thr, f1, f2, f3, f4, f5, f6, f7, f8, f9, f10]))]) hN hA rfl
  have hx := S.1
  have hb := S.2.1
  have hl : lv_has ls 2 [(0, .ref (o 0)), (1, .int v)] := hl
  refine lv_aload_n hx hb dX7_cheapest_0 rfl (lv_at hl 0 rfl) ?_
  refine lv_iconst (v := 0) hx hb dX7_cheapest_1 (by decide) ?_
  refine z_put S in_lay_X7 tyX7_ok nmX7 hK hP hD hS rfl 0 rfl 0 (by decide) fl_X7_22 rfl rfl rfl rfl (Nat.le_of_ble_eq_true rfl) dX7_cheapest_2 (fun H locs hP hS => ?_)
  have hP : va_P D vwCl [(o 0, .inr (7, [.int 0, f1, f2, f3, f4, f5, f6, f7, f8, f9, f10]))] H := hP
  have hD := zDto (ws := [(o 0, .inr (7, [.int 0, f1, f2, f3, f4, f5, f6, f7, f8, f9, f10]))]) hN hA rfl
  refine lv_iload_n hx hb dX7_cheapest_5 rfl (lv_at hl 1 rfl) ?_
  refine lv_iconst (v := 0) hx hb dX7_cheapest_6 (by decide) ?_
  refine lv_bipush (v := 9) hx hb dX7_cheapest_7 (by decide) ?_
  refine zcrS (As := [.int v, .int 0, .int 9]) (rest := []) S (c_X7_in l D ca v 0 9) ml_X7_26 zy_X7_in st_X7_in ⟨Nat.le_of_ble_eq_true rfl, Nat.le_of_ble_eq_true rfl⟩ hK hP [] rfl rfl hl.1 rfl (Nat.le_of_ble_eq_true rfl) ⟨Nat.zero_le _, Nat.zero_le _⟩ dX7_cheapest_9 ?_
  refine zz_eq (tgt := 23) hx hb dX7_cheapest_12 (by decide) (fun _ => ?_) (fun h => False.elim (by revert h; intro h; rw [hv] at h; exact absurd h (by decide)))
  refine lv_aload_n hx hb dX7_cheapest_23 rfl (lv_at hl 0 rfl) ?_
  refine lv_iconst (v := 1) hx hb dX7_cheapest_24 (by decide) ?_
  refine zcw (As := [.int 1]) (rest := []) (st1 := [.int 0]) (q0 := 0) (lw := [o 0]) S (c_X7_fails l D ca o f1 f2 f3 f4 f5 f6 f7 f8 f9 f10 0  1 (znd_pick hN [0] rfl rfl)) ml_X7_67 zy_X7_fails im_X7_fails se_X7_fails ⟨Nat.le_of_ble_eq_true rfl, Nat.le_of_ble_eq_true rfl⟩ hK hP hD hS [0] rfl rfl rfl rfl rfl rfl rfl hl.1 rfl rfl (Nat.le_of_ble_eq_true rfl) ⟨Nat.zero_le _, Nat.zero_le _⟩ dX7_cheapest_25 (fun H locs hP hS => ?_)
  have hP : va_P D vwCl [(o 0, .inr (7, [.int 1, f1, f2, f3, f4, f5, f6, f7, f8, f9, f10]))] H := hP
  have hD := zDto (ws := [(o 0, .inr (7, [.int 1, f1, f2, f3, f4, f5, f6, f7, f8, f9, f10]))]) hN hA rfl
  exact zw_i hx hb hr hlk hP hS ⟨by rfl, by rfl⟩ dX7_cheapest_28
set_option maxHeartbeats 4000000 in
set_option maxRecDepth 100000 in
theorem c_X7_cheapest_C (l : Launch) (D : va_G) (ca : Nat → ClassId) (o : Nat → Nat) (f2 f3 f4 f5 f6 f7 f8 f9 f10 : Value) (thr : Int32) (sf : Nat → Int32) (v : Int32) (hv : rIn v 0 9 = true) (hN : [o 0, o 1].Nodup) : zMw l yX7_cheapest cX7_cheapest 2 (some .int) 5 118 D ca [(o 0, .inr (7, [.int thr, .ref (o 1), f2, f3, f4, f5, f6, f7, f8, f9, f10])), (o 1, .inl (ca 0, 99, .inl sf))] ([(o 0, .inr (7, [.int 0, .ref (o 1), f2, f3, f4, f5, f6, f7, f8, f9, f10])), (o 1, .inl (ca 0, 99, .inl sf))]) [.ref (o 0), .int v] (some (.int (nI (rLc sf v)))) := by
  refine zMw_of (own := RX7) (by decide) rfl (Nat.le_of_ble_eq_true rfl) ?_
  intro p e s m args below meth c ls S hr hlk hP hK hl hS
  have hP : va_P D vwCl [(o 0, .inr (7, [.int thr, .ref (o 1), f2, f3, f4, f5, f6, f7, f8, f9, f10])), (o 1, .inl (ca 0, 99, .inl sf))] s.heap := hP
  have hS : va_S (zA [o 0, o 1]) s.heap s.heap [] := hS
  have hA : ∀ q ∈ [o 0, o 1], zA [o 0, o 1] q := fun _ h => h
  have hD := zDto (ws := [(o 0, .inr (7, [.int thr, .ref (o 1), f2, f3, f4, f5, f6, f7, f8, f9, f10])), (o 1, .inl (ca 0, 99, .inl sf))]) hN hA rfl
  have hx := S.1
  have hb := S.2.1
  have hl : lv_has ls 2 [(0, .ref (o 0)), (1, .int v)] := hl
  refine lv_aload_n hx hb dX7_cheapest_0 rfl (lv_at hl 0 rfl) ?_
  refine lv_iconst (v := 0) hx hb dX7_cheapest_1 (by decide) ?_
  refine z_put S in_lay_X7 tyX7_ok nmX7 hK hP hD hS rfl 0 rfl 0 (by decide) fl_X7_22 rfl rfl rfl rfl (Nat.le_of_ble_eq_true rfl) dX7_cheapest_2 (fun H locs hP hS => ?_)
  have hP : va_P D vwCl [(o 0, .inr (7, [.int 0, .ref (o 1), f2, f3, f4, f5, f6, f7, f8, f9, f10])), (o 1, .inl (ca 0, 99, .inl sf))] H := hP
  have hD := zDto (ws := [(o 0, .inr (7, [.int 0, .ref (o 1), f2, f3, f4, f5, f6, f7, f8, f9, f10])), (o 1, .inl (ca 0, 99, .inl sf))]) hN hA rfl
  refine lv_iload_n hx hb dX7_cheapest_5 rfl (lv_at hl 1 rfl) ?_
  refine lv_iconst (v := 0) hx hb dX7_cheapest_6 (by decide) ?_
  refine lv_bipush (v := 9) hx hb dX7_cheapest_7 (by decide) ?_
  refine zcrS (As := [.int v, .int 0, .int 9]) (rest := []) S (c_X7_in l D ca v 0 9) ml_X7_26 zy_X7_in st_X7_in ⟨Nat.le_of_ble_eq_true rfl, Nat.le_of_ble_eq_true rfl⟩ hK hP [] rfl rfl hl.1 rfl (Nat.le_of_ble_eq_true rfl) ⟨Nat.zero_le _, Nat.zero_le _⟩ dX7_cheapest_9 ?_
  refine zz_eq (tgt := 23) hx hb dX7_cheapest_12 (by decide) (fun h => False.elim (by revert h; intro h; rw [hv] at h; exact absurd h (by decide))) (fun _ => ?_)
  refine lv_aload_n hx hb dX7_cheapest_15 rfl (lv_at hl 0 rfl) ?_
  refine lv_iload_n hx hb dX7_cheapest_16 rfl (lv_at hl 1 rfl) ?_
  refine zcr (As := [.int v]) (rest := []) (q0 := 0) S (c_X7_cheapestWay l D ca o (.int 0) f2 f3 f4 f5 f6 f7 f8 f9 f10 sf v) ml_X7_179 zy_X7_cheapestWay im_X7_cheapestWay se_X7_cheapestWay ⟨Nat.le_of_ble_eq_true rfl, Nat.le_of_ble_eq_true rfl⟩ hK hP [0, 1] rfl rfl rfl rfl rfl hl.1 rfl (Nat.le_of_ble_eq_true rfl) ⟨Nat.zero_le _, Nat.zero_le _⟩ dX7_cheapest_17 ?_
  refine lv_goto (tgt := 28) hx hb dX7_cheapest_20 (by decide) ?_
  exact zw_i hx hb hr hlk hP hS ⟨by rfl, by rfl⟩ dX7_cheapest_28
set_option maxHeartbeats 4000000 in
set_option maxRecDepth 100000 in
theorem c_X7_holder (l : Launch) (D : va_G) (ca : Nat → ClassId) (o : Nat → Nat) (f2 f3 f4 f5 f6 f7 f8 f9 f10 : Value) (thr : Int32) (sf : Nat → Int32)  (hN : [o 0, o 1].Nodup) : zMw l yX7_holder cX7_holder 1 (some .int) 6 136 D ca [(o 0, .inr (7, [.int thr, .ref (o 1), f2, f3, f4, f5, f6, f7, f8, f9, f10])), (o 1, .inl (ca 0, 99, .inl sf))] ([(o 0, .inr (7, [.int 0, .ref (o 1), f2, f3, f4, f5, f6, f7, f8, f9, f10])), (o 1, .inl (ca 0, 99, .inl sf))]) [.ref (o 0)] (some (.int (rHo sf))) := by
  refine zMw_of (own := RX7) (by decide) rfl (Nat.le_of_ble_eq_true rfl) ?_
  intro p e s m args below meth c ls S hr hlk hP hK hl hS
  have hP : va_P D vwCl [(o 0, .inr (7, [.int thr, .ref (o 1), f2, f3, f4, f5, f6, f7, f8, f9, f10])), (o 1, .inl (ca 0, 99, .inl sf))] s.heap := hP
  have hS : va_S (zA [o 0, o 1]) s.heap s.heap [] := hS
  have hA : ∀ q ∈ [o 0, o 1], zA [o 0, o 1] q := fun _ h => h
  have hD := zDto (ws := [(o 0, .inr (7, [.int thr, .ref (o 1), f2, f3, f4, f5, f6, f7, f8, f9, f10])), (o 1, .inl (ca 0, 99, .inl sf))]) hN hA rfl
  have hx := S.1
  have hb := S.2.1
  have hl : lv_has ls 1 [(0, .ref (o 0))] := hl
  refine lv_aload_n hx hb dX7_holder_0 rfl (lv_at hl 0 rfl) ?_
  refine lv_iconst (v := 0) hx hb dX7_holder_1 (by decide) ?_
  refine z_put S in_lay_X7 tyX7_ok nmX7 hK hP hD hS rfl 0 rfl 0 (by decide) fl_X7_22 rfl rfl rfl rfl (Nat.le_of_ble_eq_true rfl) dX7_holder_2 (fun H locs hP hS => ?_)
  have hP : va_P D vwCl [(o 0, .inr (7, [.int 0, .ref (o 1), f2, f3, f4, f5, f6, f7, f8, f9, f10])), (o 1, .inl (ca 0, 99, .inl sf))] H := hP
  have hD := zDto (ws := [(o 0, .inr (7, [.int 0, .ref (o 1), f2, f3, f4, f5, f6, f7, f8, f9, f10])), (o 1, .inl (ca 0, 99, .inl sf))]) hN hA rfl
  refine lv_aload_n hx hb dX7_holder_5 rfl (lv_at hl 0 rfl) ?_
  refine zcr (As := []) (rest := []) (q0 := 0) S (c_X7_holderNow l D ca o (.int 0) f2 f3 f4 f5 f6 f7 f8 f9 f10 sf ) ml_X7_185 zy_X7_holderNow im_X7_holderNow se_X7_holderNow ⟨Nat.le_of_ble_eq_true rfl, Nat.le_of_ble_eq_true rfl⟩ hK hP [0, 1] rfl rfl rfl rfl rfl hl.1 rfl (Nat.le_of_ble_eq_true rfl) ⟨Nat.zero_le _, Nat.zero_le _⟩ dX7_holder_6 ?_
  exact zw_i hx hb hr hlk hP hS ⟨by rfl, by rfl⟩ dX7_holder_9
