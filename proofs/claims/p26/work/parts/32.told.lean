set_option maxHeartbeats 4000000 in
set_option maxRecDepth 100000 in
theorem c_L_low (l : Launch) (D : va_G) (ca : Nat → ClassId) (v : Int32) (n : Nat) (hn : 0 < n) (hn2 : n < 2 ^ 31) : zMr l yL_low cL_low 2 (some .int) 0 0 D ca [] [.int v, .int (nI n)] (.int (nI (zlow v n))) := by
  refine zMr_of (own := RL) (by decide) rfl (Nat.le_of_ble_eq_true rfl) ?_
  intro p e s m args below meth c ls S hr hlk hP hK hl
  have hx := S.1
  have hb := S.2.1
  have hl : lv_has ls 2 [(0, .int v), (1, .int (nI n))] := hl
  refine lv_iload_n hx hb dL_low_0 rfl (lv_at hl 0 rfl) ?_
  refine lv_ldc (v := 2147483647) hx hb S.2.2.2.1 (S.2.2.2.2 _ kc_L_7) dL_low_1 ?_
  refine lv_iand hx hb dL_low_3 ?_
  rw [low_and v]
  have hlt := Nat.mod_lt v.toBitVec.toNat (show 0 < 2147483648 by decide)
  refine lv_iload_n hx hb dL_low_4 rfl (lv_at hl 1 rfl) ?_
  refine zn_rem hx hb (x := v.toBitVec.toNat % 2147483648) (y := n) (z := (v.toBitVec.toNat % 2147483648) % n) (by omega) (by omega) (by omega) (by first | rfl | omega) dL_low_5 ?_
  exact zr_i hx hb hr hlk (by rfl) dL_low_6
set_option maxHeartbeats 4000000 in
set_option maxRecDepth 100000 in
theorem c_L_told (l : Launch) (D : va_G) (ca : Nat → ClassId) (y a h x : Nat → Nat) (Z : zSt) (nx sz : Nat) (hsz : sz ≤ 6) : zMr l yL_told cL_told 5 (some .long) 4 94 D ca [(y 0, .inr (6, [.ref (a 0), .ref (h 0), .ref (x 0)])), (h 0, .inr (1, [.ref (h 1), .int (nI nx), .int (nI sz)])), (a 0, .inr (2, [.ref (a 1), .ref (a 6), .ref (a 9)])), (a 1, .inr (3, [.ref (a 2), .ref (a 3), .ref (a 4), .ref (a 5), .int Z.1.2.2.2.2.1, .int Z.1.2.2.2.2.2])), (a 2, .inl (ca 0, 24, .inl Z.1.1)), (a 3, .inl (ca 0, 24, .inl Z.1.2.1)), (a 4, .inl (ca 0, 24, .inl Z.1.2.2.1)), (a 5, .inl (ca 0, 6, .inl Z.1.2.2.2.1)), (a 6, .inr (0, [.ref (a 7), .ref (a 8)])), (a 7, .inl (ca 0, 4, .inl Z.2.1.1)), (a 8, .inl (ca 0, 4, .inl Z.2.1.2)), (a 9, .inr (4, [.ref (a 10), .int Z.2.2.2.1, .int Z.2.2.2.2])), (a 10, .inl (ca 0, 3, .inl Z.2.2.1))] [.ref (y 0)] (.long (zTold Z sz)) := by
  refine zMr_of (own := RL) (by decide) rfl (Nat.le_of_ble_eq_true rfl) ?_
  intro p e s m args below meth c ls S hr hlk hP hK hl
  have hx := S.1
  have hb := S.2.1
  have hl : lv_has ls 5 [(0, .ref (y 0))] := hl
  refine lv_ldc2 (v := 3) hx hb S.2.2.2.1 (S.2.2.2.2 _ kc_L_8) dL_told_0 ?_
  refine lv_lstore_n (lv' := [(1, .long 3), (0, .ref (y 0))]) hx hb dL_told_3 rfl hl (by decide) rfl (fun ls hl => ?_)
  refine lv_iconst (v := 0) hx hb dL_told_4 (by decide) ?_
  refine lv_istore_n (lv' := [(3, .int 0), (1, .long 3), (0, .ref (y 0))]) hx hb dL_told_5 rfl hl (by decide) rfl (fun ls hl => ?_)
  have loop_0 : ∀ (f : Nat) (k : Nat) (u : Int64) (ls : Array Slot), k + f = 12 → zT1 Z sz = zfold (fun w => (zCo Z sz w).toInt64) f k u → lv_has ls 5 [(0, .ref (y 0)), (1, .long u), (3, .int (nI k))] → W p l e { frames := 4, cells := 0, slots := 0, locals := 94 } s m args below meth c s.heap [] 0 0 (MQ below (zQr (.long (zTold Z sz))) args s 0 0 (fun _ => False)) (F0 m 6 ls []) := by
    intro f
    induction f with
    | zero =>
      intro k u ls j1 j2 hl
      refine lv_iload_n hx hb dL_told_6 rfl (lv_at hl 2 rfl) ?_
      refine lv_bipush (v := 12) hx hb dL_told_7 (by decide) ?_
      refine zn_ge hx hb (x := k) (y := 12) (by omega) (by omega) (tgt := 31) dL_told_9 (by decide) (fun c_9_2 => ?_) (fun h => False.elim (by omega))
      obtain rfl : u = zT1 Z sz := j2.symm
      refine lv_iconst (v := 0) hx hb dL_told_31 (by decide) ?_
      refine lv_istore_n (lv' := [(3, .int 0), (0, .ref (y 0)), (1, .long (zT1 Z sz))]) hx hb dL_told_32 rfl hl (by decide) rfl (fun ls hl => ?_)
      have loop_2 : ∀ (f : Nat) (k : Nat) (u : Int64) (ls : Array Slot), k + f = 24 → zfold2 (fun k w => (zSl Z.1 k w).toInt64) 4 24 0 (zT1 Z sz) = zfold2 (fun k w => (zSl Z.1 k w).toInt64) 4 f k u → lv_has ls 5 [(0, .ref (y 0)), (1, .long u), (3, .int (nI k))] → W p l e { frames := 4, cells := 0, slots := 0, locals := 94 } s m args below meth c s.heap [] 0 0 (MQ below (zQr (.long (zTold Z sz))) args s 0 0 (fun _ => False)) (F0 m 33 ls []) := by
        intro f
        induction f with
        | zero =>
          intro k u ls j1 j2 hl
          refine lv_iload_n hx hb dL_told_33 rfl (lv_at hl 2 rfl) ?_
          refine lv_bipush (v := 24) hx hb dL_told_34 (by decide) ?_
          refine zn_ge hx hb (x := k) (y := 24) (by omega) (by omega) (tgt := 75) dL_told_36 (by decide) (fun c_36_4 => ?_) (fun h => False.elim (by omega))
          obtain rfl : u = zT2 Z sz := j2.symm
          refine lv_iconst (v := 0) hx hb dL_told_75 (by decide) ?_
          refine lv_istore_n (lv' := [(3, .int 0), (0, .ref (y 0)), (1, .long (zT2 Z sz))]) hx hb dL_told_76 rfl hl (by decide) rfl (fun ls hl => ?_)
          have loop_4 : ∀ (f : Nat) (k : Nat) (u : Int64) (ls : Array Slot), k + f = 6 → zfold2 (fun k w => (zPg Z k w).toInt64) 5 6 0 (zT2 Z sz) = zfold2 (fun k w => (zPg Z k w).toInt64) 5 f k u → lv_has ls 5 [(0, .ref (y 0)), (1, .long u), (3, .int (nI k))] → W p l e { frames := 4, cells := 0, slots := 0, locals := 94 } s m args below meth c s.heap [] 0 0 (MQ below (zQr (.long (zTold Z sz))) args s 0 0 (fun _ => False)) (F0 m 77 ls []) := by
            intro f
            induction f with
            | zero =>
              intro k u ls j1 j2 hl
              refine lv_iload_n hx hb dL_told_77 rfl (lv_at hl 2 rfl) ?_
              refine lv_bipush (v := 6) hx hb dL_told_78 (by decide) ?_
              refine zn_ge hx hb (x := k) (y := 6) (by omega) (by omega) (tgt := 119) dL_told_80 (by decide) (fun c_80_6 => ?_) (fun h => False.elim (by omega))
              obtain rfl : u = zT3 Z sz := j2.symm
              refine lv_iconst (v := 0) hx hb dL_told_119 (by decide) ?_
              refine lv_istore_n (lv' := [(3, .int 0), (0, .ref (y 0)), (1, .long (zT3 Z sz))]) hx hb dL_told_120 rfl hl (by decide) rfl (fun ls hl => ?_)
              have loop_6 : ∀ (f : Nat) (k : Nat) (u : Int64) (ls : Array Slot), k + f = 4 → zfold2 (fun k w => (zAs Z k w).toInt64) 3 4 0 (zT3 Z sz) = zfold2 (fun k w => (zAs Z k w).toInt64) 3 f k u → lv_has ls 5 [(0, .ref (y 0)), (1, .long u), (3, .int (nI k))] → W p l e { frames := 4, cells := 0, slots := 0, locals := 94 } s m args below meth c s.heap [] 0 0 (MQ below (zQr (.long (zTold Z sz))) args s 0 0 (fun _ => False)) (F0 m 121 ls []) := by
                intro f
                induction f with
                | zero =>
                  intro k u ls j1 j2 hl
                  refine lv_iload_n hx hb dL_told_121 rfl (lv_at hl 2 rfl) ?_
                  refine lv_iconst (v := 4) hx hb dL_told_122 (by decide) ?_
                  refine zn_ge hx hb (x := k) (y := 4) (by omega) (by omega) (tgt := 162) dL_told_123 (by decide) (fun c_123_8 => ?_) (fun h => False.elim (by omega))
                  obtain rfl : u = zTold Z sz := j2.symm
                  refine lv_lload_n hx hb dL_told_162 rfl (lv_at hl 1 rfl) ?_
                  exact zr_l hx hb hr hlk (by rfl) dL_told_163
                | succ f ih =>
                  intro k u ls j1 j2 hl
                  refine lv_iload_n hx hb dL_told_121 rfl (lv_at hl 2 rfl) ?_
                  refine lv_iconst (v := 4) hx hb dL_told_122 (by decide) ?_
                  refine zn_ge hx hb (x := k) (y := 4) (by omega) (by omega) (tgt := 162) dL_told_123 (by decide) (fun h => False.elim (by omega)) (fun c_123_9 => ?_)
                  refine lv_iconst (v := 0) hx hb dL_told_126 (by decide) ?_
                  refine lv_istore (lv' := [(4, .int 0), (0, .ref (y 0)), (1, .long u), (3, .int (nI k))]) hx hb dL_told_127 hl (by decide) rfl (fun ls hl => ?_)
                  have loop_9 : ∀ (f : Nat) (j : Nat) (z : Int64) (ls : Array Slot), j + f = 3 → zfold (fun w => (zAs Z k w).toInt64) 3 0 u = zfold (fun w => (zAs Z k w).toInt64) f j z → lv_has ls 5 [(0, .ref (y 0)), (1, .long z), (3, .int (nI k)), (4, .int (nI j))] → W p l e { frames := 4, cells := 0, slots := 0, locals := 94 } s m args below meth c s.heap [] 0 0 (MQ below (zQr (.long (zTold Z sz))) args s 0 0 (fun _ => False)) (F0 m 129 ls []) := by
                    intro f
                    induction f with
                    | zero =>
                      intro j z ls i1 i2 hl
                      refine lv_iload hx hb dL_told_129 (lv_at hl 3 rfl) ?_
                      refine lv_iconst (v := 3) hx hb dL_told_131 (by decide) ?_
                      refine zn_ge hx hb (x := j) (y := 3) (by omega) (by omega) (tgt := 156) dL_told_132 (by decide) (fun c_132_11 => ?_) (fun h => False.elim (by omega))
                      refine lv_iinc (v := nI (k + 1)) (lv' := [(3, .int (nI (k + 1))), (0, .ref (y 0)), (1, .long z), (4, .int (nI j))]) hx hb dL_told_156 hl (k := 2) rfl (zinc k 1) (by decide) rfl (fun ls hl => ?_)
                      refine lv_goto (tgt := 121) hx hb dL_told_159 (by decide) ?_
                      exact ih (k + 1) z ls (by omega) (by rw [j2, zfold2, i2]; rfl) (lv_sub hl [1, 2, 0] rfl)
                    | succ f ih =>
                      intro j z ls i1 i2 hl
                      refine lv_iload hx hb dL_told_129 (lv_at hl 3 rfl) ?_
                      refine lv_iconst (v := 3) hx hb dL_told_131 (by decide) ?_
                      refine zn_ge hx hb (x := j) (y := 3) (by omega) (by omega) (tgt := 156) dL_told_132 (by decide) (fun h => False.elim (by omega)) (fun c_132_12 => ?_)
                      refine lv_ldc2 (v := 31) hx hb S.2.2.2.1 (S.2.2.2.2 _ kc_L_10) dL_told_135 ?_
                      refine lv_lload_n hx hb dL_told_138 rfl (lv_at hl 1 rfl) ?_
                      refine lv_lmul hx hb dL_told_139 ?_
                      refine lv_aload_n hx hb dL_told_140 rfl (lv_at hl 0 rfl) ?_
                      refine lv_iload_n hx hb dL_told_141 rfl (lv_at hl 2 rfl) ?_
                      refine lv_iload hx hb dL_told_142 (lv_at hl 3 rfl) ?_
                      refine zcr (As := [.int (nI k), .int (nI j)]) (rest := [.long (31 * z)]) (q0 := 0) S (c_X6_asker_C l D ca y a h x Z k j (by omega) (by omega)) ml_L_25 zy_X6_asker im_X6_asker se_X6_asker ⟨Nat.le_of_ble_eq_true rfl, Nat.le_of_ble_eq_true rfl⟩ hK hP [0, 2, 3, 4, 5, 6, 7, 8, 9, 10, 11, 12] rfl rfl rfl rfl rfl hl.1 rfl (Nat.le_of_ble_eq_true rfl) ⟨Nat.zero_le _, Nat.zero_le _⟩ dL_told_144 ?_
                      refine lv_i2l (v := (zAs Z k j).toInt64) hx hb dL_told_147 rfl ?_
                      refine lv_ladd hx hb dL_told_148 ?_
                      refine lv_lstore_n (lv' := [(1, .long ((31 * z) + ((zAs Z k j).toInt64))), (0, .ref (y 0)), (3, .int (nI k)), (4, .int (nI j))]) hx hb dL_told_149 rfl hl (by decide) rfl (fun ls hl => ?_)
                      refine lv_iinc (v := nI (j + 1)) (lv' := [(4, .int (nI (j + 1))), (1, .long ((31 * z) + ((zAs Z k j).toInt64))), (0, .ref (y 0)), (3, .int (nI k))]) hx hb dL_told_150 hl (k := 3) rfl (zinc j 1) (by decide) rfl (fun ls hl => ?_)
                      refine lv_goto (tgt := 129) hx hb dL_told_153 (by decide) ?_
                      exact ih (j + 1) ((31 * z) + ((zAs Z k j).toInt64)) ls (by omega) (by rw [i2]; rfl) (lv_sub hl [2, 1, 3, 0] rfl)
                  exact loop_9 3 0 u ls (by omega) (by rfl) (lv_sub hl [1, 2, 3, 0] rfl)
              exact loop_6 4 0 (zT3 Z sz) ls (by omega) (by rfl) (lv_sub hl [1, 2, 0] rfl)
            | succ f ih =>
              intro k u ls j1 j2 hl
              refine lv_iload_n hx hb dL_told_77 rfl (lv_at hl 2 rfl) ?_
              refine lv_bipush (v := 6) hx hb dL_told_78 (by decide) ?_
              refine zn_ge hx hb (x := k) (y := 6) (by omega) (by omega) (tgt := 119) dL_told_80 (by decide) (fun h => False.elim (by omega)) (fun c_80_13 => ?_)
              refine lv_iconst (v := 0) hx hb dL_told_83 (by decide) ?_
              refine lv_istore (lv' := [(4, .int 0), (0, .ref (y 0)), (1, .long u), (3, .int (nI k))]) hx hb dL_told_84 hl (by decide) rfl (fun ls hl => ?_)
              have loop_13 : ∀ (f : Nat) (j : Nat) (z : Int64) (ls : Array Slot), j + f = 5 → zfold (fun w => (zPg Z k w).toInt64) 5 0 u = zfold (fun w => (zPg Z k w).toInt64) f j z → lv_has ls 5 [(0, .ref (y 0)), (1, .long z), (3, .int (nI k)), (4, .int (nI j))] → W p l e { frames := 4, cells := 0, slots := 0, locals := 94 } s m args below meth c s.heap [] 0 0 (MQ below (zQr (.long (zTold Z sz))) args s 0 0 (fun _ => False)) (F0 m 86 ls []) := by
                intro f
                induction f with
                | zero =>
                  intro j z ls i1 i2 hl
                  refine lv_iload hx hb dL_told_86 (lv_at hl 3 rfl) ?_
                  refine lv_iconst (v := 5) hx hb dL_told_88 (by decide) ?_
                  refine zn_ge hx hb (x := j) (y := 5) (by omega) (by omega) (tgt := 113) dL_told_89 (by decide) (fun c_89_15 => ?_) (fun h => False.elim (by omega))
                  refine lv_iinc (v := nI (k + 1)) (lv' := [(3, .int (nI (k + 1))), (0, .ref (y 0)), (1, .long z), (4, .int (nI j))]) hx hb dL_told_113 hl (k := 2) rfl (zinc k 1) (by decide) rfl (fun ls hl => ?_)
                  refine lv_goto (tgt := 77) hx hb dL_told_116 (by decide) ?_
                  exact ih (k + 1) z ls (by omega) (by rw [j2, zfold2, i2]; rfl) (lv_sub hl [1, 2, 0] rfl)
                | succ f ih =>
                  intro j z ls i1 i2 hl
                  refine lv_iload hx hb dL_told_86 (lv_at hl 3 rfl) ?_
                  refine lv_iconst (v := 5) hx hb dL_told_88 (by decide) ?_
                  refine zn_ge hx hb (x := j) (y := 5) (by omega) (by omega) (tgt := 113) dL_told_89 (by decide) (fun h => False.elim (by omega)) (fun c_89_16 => ?_)
                  refine lv_ldc2 (v := 31) hx hb S.2.2.2.1 (S.2.2.2.2 _ kc_L_10) dL_told_92 ?_
                  refine lv_lload_n hx hb dL_told_95 rfl (lv_at hl 1 rfl) ?_
                  refine lv_lmul hx hb dL_told_96 ?_
                  refine lv_aload_n hx hb dL_told_97 rfl (lv_at hl 0 rfl) ?_
                  refine lv_iload_n hx hb dL_told_98 rfl (lv_at hl 2 rfl) ?_
                  refine lv_iload hx hb dL_told_99 (lv_at hl 3 rfl) ?_
                  refine zcr (As := [.int (nI k), .int (nI j)]) (rest := [.long (31 * z)]) (q0 := 0) S (c_X6_page_C l D ca y a h x Z k j (by omega) (by omega)) ml_L_22 zy_X6_page im_X6_page se_X6_page ⟨Nat.le_of_ble_eq_true rfl, Nat.le_of_ble_eq_true rfl⟩ hK hP [0, 2, 3, 4, 5, 6, 7, 8, 9, 10, 11, 12] rfl rfl rfl rfl rfl hl.1 rfl (Nat.le_of_ble_eq_true rfl) ⟨Nat.zero_le _, Nat.zero_le _⟩ dL_told_101 ?_
                  refine lv_i2l (v := (zPg Z k j).toInt64) hx hb dL_told_104 rfl ?_
                  refine lv_ladd hx hb dL_told_105 ?_
                  refine lv_lstore_n (lv' := [(1, .long ((31 * z) + ((zPg Z k j).toInt64))), (0, .ref (y 0)), (3, .int (nI k)), (4, .int (nI j))]) hx hb dL_told_106 rfl hl (by decide) rfl (fun ls hl => ?_)
                  refine lv_iinc (v := nI (j + 1)) (lv' := [(4, .int (nI (j + 1))), (1, .long ((31 * z) + ((zPg Z k j).toInt64))), (0, .ref (y 0)), (3, .int (nI k))]) hx hb dL_told_107 hl (k := 3) rfl (zinc j 1) (by decide) rfl (fun ls hl => ?_)
                  refine lv_goto (tgt := 86) hx hb dL_told_110 (by decide) ?_
                  exact ih (j + 1) ((31 * z) + ((zPg Z k j).toInt64)) ls (by omega) (by rw [i2]; rfl) (lv_sub hl [2, 1, 3, 0] rfl)
              exact loop_13 5 0 u ls (by omega) (by rfl) (lv_sub hl [1, 2, 3, 0] rfl)
          exact loop_4 6 0 (zT2 Z sz) ls (by omega) (by rfl) (lv_sub hl [1, 2, 0] rfl)
        | succ f ih =>
          intro k u ls j1 j2 hl
          refine lv_iload_n hx hb dL_told_33 rfl (lv_at hl 2 rfl) ?_
          refine lv_bipush (v := 24) hx hb dL_told_34 (by decide) ?_
          refine zn_ge hx hb (x := k) (y := 24) (by omega) (by omega) (tgt := 75) dL_told_36 (by decide) (fun h => False.elim (by omega)) (fun c_36_17 => ?_)
          refine lv_iconst (v := 0) hx hb dL_told_39 (by decide) ?_
          refine lv_istore (lv' := [(4, .int 0), (0, .ref (y 0)), (1, .long u), (3, .int (nI k))]) hx hb dL_told_40 hl (by decide) rfl (fun ls hl => ?_)
          have loop_17 : ∀ (f : Nat) (j : Nat) (z : Int64) (ls : Array Slot), j + f = 4 → zfold (fun w => (zSl Z.1 k w).toInt64) 4 0 u = zfold (fun w => (zSl Z.1 k w).toInt64) f j z → lv_has ls 5 [(0, .ref (y 0)), (1, .long z), (3, .int (nI k)), (4, .int (nI j))] → W p l e { frames := 4, cells := 0, slots := 0, locals := 94 } s m args below meth c s.heap [] 0 0 (MQ below (zQr (.long (zTold Z sz))) args s 0 0 (fun _ => False)) (F0 m 42 ls []) := by
            intro f
            induction f with
            | zero =>
              intro j z ls i1 i2 hl
              refine lv_iload hx hb dL_told_42 (lv_at hl 3 rfl) ?_
              refine lv_iconst (v := 4) hx hb dL_told_44 (by decide) ?_
              refine zn_ge hx hb (x := j) (y := 4) (by omega) (by omega) (tgt := 69) dL_told_45 (by decide) (fun c_45_19 => ?_) (fun h => False.elim (by omega))
              refine lv_iinc (v := nI (k + 1)) (lv' := [(3, .int (nI (k + 1))), (0, .ref (y 0)), (1, .long z), (4, .int (nI j))]) hx hb dL_told_69 hl (k := 2) rfl (zinc k 1) (by decide) rfl (fun ls hl => ?_)
              refine lv_goto (tgt := 33) hx hb dL_told_72 (by decide) ?_
              exact ih (k + 1) z ls (by omega) (by rw [j2, zfold2, i2]; rfl) (lv_sub hl [1, 2, 0] rfl)
            | succ f ih =>
              intro j z ls i1 i2 hl
              refine lv_iload hx hb dL_told_42 (lv_at hl 3 rfl) ?_
              refine lv_iconst (v := 4) hx hb dL_told_44 (by decide) ?_
              refine zn_ge hx hb (x := j) (y := 4) (by omega) (by omega) (tgt := 69) dL_told_45 (by decide) (fun h => False.elim (by omega)) (fun c_45_20 => ?_)
              refine lv_ldc2 (v := 31) hx hb S.2.2.2.1 (S.2.2.2.2 _ kc_L_10) dL_told_48 ?_
              refine lv_lload_n hx hb dL_told_51 rfl (lv_at hl 1 rfl) ?_
              refine lv_lmul hx hb dL_told_52 ?_
              refine lv_aload_n hx hb dL_told_53 rfl (lv_at hl 0 rfl) ?_
              refine lv_iload_n hx hb dL_told_54 rfl (lv_at hl 2 rfl) ?_
              refine lv_iload hx hb dL_told_55 (lv_at hl 3 rfl) ?_
              refine zcr (As := [.int (nI k), .int (nI j)]) (rest := [.long (31 * z)]) (q0 := 0) S (c_X6_slot_C l D ca y a h x Z k j (by omega) (by omega)) ml_L_18 zy_X6_slot im_X6_slot se_X6_slot ⟨Nat.le_of_ble_eq_true rfl, Nat.le_of_ble_eq_true rfl⟩ hK hP [0, 2, 3, 4, 5, 6, 7, 8, 9, 10, 11, 12] rfl rfl rfl rfl rfl hl.1 rfl (Nat.le_of_ble_eq_true rfl) ⟨Nat.zero_le _, Nat.zero_le _⟩ dL_told_57 ?_
              refine lv_i2l (v := (zSl Z.1 k j).toInt64) hx hb dL_told_60 rfl ?_
              refine lv_ladd hx hb dL_told_61 ?_
              refine lv_lstore_n (lv' := [(1, .long ((31 * z) + ((zSl Z.1 k j).toInt64))), (0, .ref (y 0)), (3, .int (nI k)), (4, .int (nI j))]) hx hb dL_told_62 rfl hl (by decide) rfl (fun ls hl => ?_)
              refine lv_iinc (v := nI (j + 1)) (lv' := [(4, .int (nI (j + 1))), (1, .long ((31 * z) + ((zSl Z.1 k j).toInt64))), (0, .ref (y 0)), (3, .int (nI k))]) hx hb dL_told_63 hl (k := 3) rfl (zinc j 1) (by decide) rfl (fun ls hl => ?_)
              refine lv_goto (tgt := 42) hx hb dL_told_66 (by decide) ?_
              exact ih (j + 1) ((31 * z) + ((zSl Z.1 k j).toInt64)) ls (by omega) (by rw [i2]; rfl) (lv_sub hl [2, 1, 3, 0] rfl)
          exact loop_17 4 0 u ls (by omega) (by rfl) (lv_sub hl [1, 2, 3, 0] rfl)
      exact loop_2 24 0 (zT1 Z sz) ls (by omega) (by rfl) (lv_sub hl [1, 2, 0] rfl)
    | succ f ih =>
      intro k u ls j1 j2 hl
      refine lv_iload_n hx hb dL_told_6 rfl (lv_at hl 2 rfl) ?_
      refine lv_bipush (v := 12) hx hb dL_told_7 (by decide) ?_
      refine zn_ge hx hb (x := k) (y := 12) (by omega) (by omega) (tgt := 31) dL_told_9 (by decide) (fun h => False.elim (by omega)) (fun c_9_21 => ?_)
      refine lv_ldc2 (v := 31) hx hb S.2.2.2.1 (S.2.2.2.2 _ kc_L_10) dL_told_12 ?_
      refine lv_lload_n hx hb dL_told_15 rfl (lv_at hl 1 rfl) ?_
      refine lv_lmul hx hb dL_told_16 ?_
      refine lv_aload_n hx hb dL_told_17 rfl (lv_at hl 0 rfl) ?_
      refine lv_iload_n hx hb dL_told_18 rfl (lv_at hl 2 rfl) ?_
      refine zcr (As := [.int (nI k)]) (rest := [.long (31 * u)]) (q0 := 0) S (c_X6_count_C l D ca y a h x Z nx sz (by omega) k (by omega)) ml_L_12 zy_X6_count im_X6_count se_X6_count ⟨Nat.le_of_ble_eq_true rfl, Nat.le_of_ble_eq_true rfl⟩ hK hP [0, 1, 2, 3, 4, 5, 6, 7, 8, 9, 10, 11, 12] rfl rfl rfl rfl rfl hl.1 rfl (Nat.le_of_ble_eq_true rfl) ⟨Nat.zero_le _, Nat.zero_le _⟩ dL_told_19 ?_
      refine lv_i2l (v := (zCo Z sz k).toInt64) hx hb dL_told_22 rfl ?_
      refine lv_ladd hx hb dL_told_23 ?_
      refine lv_lstore_n (lv' := [(1, .long ((31 * u) + ((zCo Z sz k).toInt64))), (0, .ref (y 0)), (3, .int (nI k))]) hx hb dL_told_24 rfl hl (by decide) rfl (fun ls hl => ?_)
      refine lv_iinc (v := nI (k + 1)) (lv' := [(3, .int (nI (k + 1))), (1, .long ((31 * u) + ((zCo Z sz k).toInt64))), (0, .ref (y 0))]) hx hb dL_told_25 hl (k := 2) rfl (zinc k 1) (by decide) rfl (fun ls hl => ?_)
      refine lv_goto (tgt := 6) hx hb dL_told_28 (by decide) ?_
      exact ih (k + 1) ((31 * u) + ((zCo Z sz k).toInt64)) ls (by omega) (by rw [j2]; rfl) (lv_sub hl [2, 1, 0] rfl)
  exact loop_0 12 0 3 ls (by omega) (by rfl) (lv_sub hl [2, 1, 0] rfl)
theorem c_X6_sweepAll_U (l : Launch) (D : va_G) (ca : Nat → ClassId) (y a b h x : Nat → Nat) (nx sz : Nat) (hnx : nx < 6) (hsz : sz ≤ 6) (F : Nat → Option Nat) (hF : F nx = some (b 0)) (G Z : zSt) (U : zTb) (hU : U = zSwA (zHor Z) 6 0 Z.1) (hN : [y 0, h 0, h 1, b 0, b 1, b 2, b 3, b 4, b 5, b 6, b 7, b 8, b 9, b 10, a 0, a 1, a 2, a 3, a 4, a 5, a 6, a 7, a 8, a 9, a 10].Nodup) : zMw l yX6_sweepAll cX6_sweepAll 3 (some .int) 4 81 D ca [(y 0, .inr (6, [.ref (a 0), .ref (h 0), .ref (x 0)])), (h 0, .inr (1, [.ref (h 1), .int (nI nx), .int (nI sz)])), (h 1, .inl (ca 3, 6, .inr (.inr (.inr (.inr F))))), (b 0, .inr (2, [.ref (b 1), .ref (b 6), .ref (b 9)])), (b 1, .inr (3, [.ref (b 2), .ref (b 3), .ref (b 4), .ref (b 5), .int G.1.2.2.2.2.1, .int G.1.2.2.2.2.2])), (b 2, .inl (ca 0, 24, .inl G.1.1)), (b 3, .inl (ca 0, 24, .inl G.1.2.1)), (b 4, .inl (ca 0, 24, .inl G.1.2.2.1)), (b 5, .inl (ca 0, 6, .inl G.1.2.2.2.1)), (b 6, .inr (0, [.ref (b 7), .ref (b 8)])), (b 7, .inl (ca 0, 4, .inl G.2.1.1)), (b 8, .inl (ca 0, 4, .inl G.2.1.2)), (b 9, .inr (4, [.ref (b 10), .int G.2.2.2.1, .int G.2.2.2.2])), (b 10, .inl (ca 0, 3, .inl G.2.2.1)), (a 0, .inr (2, [.ref (a 1), .ref (a 6), .ref (a 9)])), (a 1, .inr (3, [.ref (a 2), .ref (a 3), .ref (a 4), .ref (a 5), .int Z.1.2.2.2.2.1, .int Z.1.2.2.2.2.2])), (a 2, .inl (ca 0, 24, .inl Z.1.1)), (a 3, .inl (ca 0, 24, .inl Z.1.2.1)), (a 4, .inl (ca 0, 24, .inl Z.1.2.2.1)), (a 5, .inl (ca 0, 6, .inl Z.1.2.2.2.1)), (a 6, .inr (0, [.ref (a 7), .ref (a 8)])), (a 7, .inl (ca 0, 4, .inl Z.2.1.1)), (a 8, .inl (ca 0, 4, .inl Z.2.1.2)), (a 9, .inr (4, [.ref (a 10), .int Z.2.2.2.1, .int Z.2.2.2.2])), (a 10, .inl (ca 0, 3, .inl Z.2.2.1))] [(y 0, .inr (6, [.ref (a 0), .ref (h 0), .ref (x 0)])), (h 0, .inr (1, [.ref (h 1), .int (nI ((nx + 1) % 6)), .int (nI (zSz sz))])), (h 1, .inl (ca 3, 6, .inr (.inr (.inr (.inr F))))), (b 0, .inr (2, [.ref (b 1), .ref (b 6), .ref (b 9)])), (b 1, .inr (3, [.ref (b 2), .ref (b 3), .ref (b 4), .ref (b 5), .int Z.1.2.2.2.2.1, .int Z.1.2.2.2.2.2])), (b 2, .inl (ca 0, 24, .inl Z.1.1)), (b 3, .inl (ca 0, 24, .inl Z.1.2.1)), (b 4, .inl (ca 0, 24, .inl Z.1.2.2.1)), (b 5, .inl (ca 0, 6, .inl Z.1.2.2.2.1)), (b 6, .inr (0, [.ref (b 7), .ref (b 8)])), (b 7, .inl (ca 0, 4, .inl Z.2.1.1)), (b 8, .inl (ca 0, 4, .inl Z.2.1.2)), (b 9, .inr (4, [.ref (b 10), .int Z.2.2.2.1, .int Z.2.2.2.2])), (b 10, .inl (ca 0, 3, .inl Z.2.2.1)), (a 0, .inr (2, [.ref (a 1), .ref (a 6), .ref (a 9)])), (a 1, .inr (3, [.ref (a 2), .ref (a 3), .ref (a 4), .ref (a 5), .int (((U, Z.2).1).2.2.2.2.1), .int (((U, Z.2).1).2.2.2.2.2)])), (a 2, .inl (ca 0, 24, .inl (((U, Z.2).1).1))), (a 3, .inl (ca 0, 24, .inl (((U, Z.2).1).2.1))), (a 4, .inl (ca 0, 24, .inl (((U, Z.2).1).2.2.1))), (a 5, .inl (ca 0, 6, .inl (((U, Z.2).1).2.2.2.1))), (a 6, .inr (0, [.ref (a 7), .ref (a 8)])), (a 7, .inl (ca 0, 4, .inl (((U, Z.2).2.1).1))), (a 8, .inl (ca 0, 4, .inl (((U, Z.2).2.1).2))), (a 9, .inr (4, [.ref (a 10), .int (((U, Z.2).2.2).2.1), .int (((U, Z.2).2.2).2.2)])), (a 10, .inl (ca 0, 3, .inl (((U, Z.2).2.2).1)))] [.ref (y 0)] (some (.int (zMp U))) := by
  subst hU
  exact c_X6_sweepAll l D ca y a b h x nx sz hnx hsz F hF G Z hN
