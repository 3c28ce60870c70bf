/-! THE CLAIM OUT OF ONE WALK OF THE LAW'S BODY. Your part is whole_start (and what it stands on); all else here is the same for every law, but numbers. -/
def R_law : String := "SeenPagesLaw"
def lw_P (b : Addr) (xs : List Int32) (args : Array Value) (s : State) : Prop := args = #[.ref b] ∧ s.IntsAt b xs ∧ xs.length ≤ 2560 ∧ (Jvm.Cond.and given_1 narrow_1).before args s = true
/-- what a walk over the start with the record d0 says of its end, said of the start itself -/
theorem lw_closed {s t : State} {o : Outcome} {d0 : Drawn} {L : List Loc} {k n : Nat} (hd0 : s.drawn.sameBut d0 lw_cs) (hv : ∃ v, o = .returned v) (hW : (s.setDrawn d0).WarmedH t.vm) (hs : (s.setDrawn d0).sameButNew ({ t with vm := s.vm } : State) L k n) : State.butDraws s t lw_cs (fun t1 => Framed s o t1 L k n) := by
  have h2 : t.drawn = d0 := congrArg State.drawn hs.1
  refine ⟨⟨hv, hW, State.sameButNew.setDrawn hs s.drawn⟩, ?_, by decide⟩
  rw [h2]
  exact hd0
def lw_Q (_ : Array Value) (s : State) (o : Outcome) (t : State) : Prop := o = .returned (some (.int 1)) ∧ State.butDraws s t lw_cs (fun t1 => Framed s o t1 [] 601024 7293034)
def lw_Z (below : List Frame) (a : Array Value) (s : State) : State → Prop := fun t => ∃ o, t.status = .running ∧ Ended t below o ∧ lw_Q a s o t
/-- the law's own end, with 1 on the stack, nothing written that was there before, its room as the claim has it; d0: the record of draws at this point (at the entry s.drawn: begin with 'refine W.base ?_' and 'have hd0 := Drawn.sameBut.refl s.drawn lw_cs') -/
theorem lw_ret {p : Program} {l : Launch} {e : Env} {s : State} {m : MethodId} {below : List Frame} {meth : Method} {c : Code} {b : Nat} {d0 : Drawn} (hd0 : s.drawn.sameBut d0 lw_cs) (hx : p.tables.exec = Jvm.exec) (hb : c.code = code) (hr : meth.sig.returnType = ret) (hlocks : meth.locks = false) {pc : Nat} {H : Heap} {ls : Array Slot} (hdg : decode code pc = .ok (.ireturn, 1)) : W p l e room_1 (s.setDrawn d0) m #[Value.ref b] below meth c H [] 601024 7293034 (lw_Z below #[Value.ref b] s) (F0 m pc ls [.int 1]) := by
  intro T hT X
  obtain ⟨fs, hret, hrun, hended, hW, hframe⟩ := X.leave (v := some (.int 1)) (hlocks := hlocks) (fun h => by rw [hr] at h; cases h)
  have hmeth' : T.vm.method? m = some meth := X.method'
  refine ⟨T.setFrames fs, ?_, .returned (some (.int 1)), hrun, hended, rfl, lw_closed hd0 ⟨_, rfl⟩ hW hframe⟩
  jvm_step X.here [X.here.top, hx, hb, hdg, hmeth', hr, ret, narrow_b1]
  (try refine ⟨rfl, ?_⟩); (try refine ⟨rfl, ?_⟩)
  first | (intro acts; rw [hret _ acts rfl rfl rfl]) | rw [hret _ _ rfl rfl rfl]
  exact Steps.refl _
/-- what holds at the law's entry: the machine, the code, the tables' words (any of lw_tbl by 'hts w (by decide +kernel)'), the script of L ints xs at the cell b, what the Statement gives of the start (any of its parts by flat_of_before) -/
def lw_At (p : Program) (s : State) (m : MethodId) (meth : Method) (c : Code) (b L : Nat) (xs : Nat → Int32) : Prop :=
  p.tables.exec = Jvm.exec ∧ c.code = code ∧ meth.sig.returnType = ret ∧ c.maxLocals = 9 ∧ s.vm.findClass R_law = some m.cls ∧ (∀ w ∈ lw_tbl, w.before #[Value.ref b] s = true) ∧ va_X b L xs s s.heap ∧ b < s.heap.size ∧ meth.locks = false ∧ (Jvm.Cond.and given_1 narrow_1).before #[Value.ref b] s = true
theorem and31 (x : Int32) : ∃ k, k < 32 ∧ x &&& 31 = nI k := by
  refine ⟨(x &&& 31).toBitVec.toNat, ?_, ?_⟩
  · rw [Int32.toBitVec_and, BitVec.toNat_and]
    exact Nat.lt_succ_of_le Nat.and_le_right
  · apply Int32.toBitVec_inj.mp
    apply BitVec.eq_of_toNat_eq
    show _ = (x &&& 31).toBitVec.toNat % 2 ^ 32
    rw [Nat.mod_eq_of_lt (BitVec.isLt _)]
theorem guard_out {L t : Nat} (hL : L ≤ 2560) (ht : t ≤ 513) : (Int32.ofNat L - 5 < nI (5 * t)) ↔ L < 5 * t + 5 := by
  by_cases h : 5 ≤ L
  · have e : Int32.ofNat L - 5 = nI (L - 5) := pk_sub (a := L) (b := 5) h
    rw [e, nI_ltI (by omega) (by omega)]
    omega
  · have h1 : L < 5 * t + 5 := by omega
    refine ⟨fun _ => h1, fun _ => ?_⟩
    rw [Int32.lt_iff_toInt_lt, nI_toInt (by omega)]
    rcases (show L = 0 ∨ L = 1 ∨ L = 2 ∨ L = 3 ∨ L = 4 by omega) with rfl | rfl | rfl | rfl | rfl
    · have : (Int32.ofNat 0 - 5).toInt = -5 := by decide
      omega
    · have : (Int32.ofNat 1 - 5).toInt = -4 := by decide
      omega
    · have : (Int32.ofNat 2 - 5).toInt = -3 := by decide
      omega
    · have : (Int32.ofNat 3 - 5).toInt = -2 := by decide
      omega
    · have : (Int32.ofNat 4 - 5).toInt = -1 := by decide
      omega
section LOOP
variable {p : Program} {l : Launch} {e : Env} {s : State} {m : MethodId} {below : List Frame} {meth : Method} {c : Code}
variable {D : va_G} {ca : Nat → ClassId} {b L : Nat} {xs : Nat → Int32} {y a h x o r : Nat → Nat} {rB : Nat → Nat → Nat} {F : Nat → Option Nat}
/-- one turn of the law's loop: out, or in and on at the loop's end -/
theorem law_turn {Q : State → Prop} {t cells slots : Nat} {ov : Nat → Int64} {thr : Int32} {H : Heap} {locs : List Loc} {ls : Array Slot} (X : zCx p l s m c b L xs D ca y a h x o r rB F) (ht : t ≤ 513) (hI : zLI D ca y a h x o r rB F t ov thr H) (hS : va_S (zAl s) s.heap H locs) (hl : lv_has ls 9 (zLv b t (y 0) (o 0) (r 0))) (hcs : t < 512 → cells + 1 ≤ 601024 ∧ slots + 6 ≤ 7293034)
    (kout : W p l e room_1 s m #[Value.ref b] below meth c H locs cells slots Q (F0 m 1293 ls []))
    (kk : 5 * t + 5 ≤ L → ∀ (H1 : Heap) (locs1 : List Loc) (ls1 : Array Slot) (ov1 : Nat → Int64) (thr1 : Int32), zLI D ca y a h x o r rB F (t + 1) ov1 thr1 H1 → va_S (zAl s) s.heap H1 locs1 → lv_has ls1 9 (zLv b (t + 1) (y 0) (o 0) (r 0)) → W p l e room_1 s m #[Value.ref b] below meth c H1 locs1 (cells + 1) (slots + 6) Q (F0 m 23 ls1 [])) : W p l e room_1 s m #[Value.ref b] below meth c H locs cells slots Q (F0 m 23 ls []) := by
  have hx := X.1.1
  have hb := X.1.2.1
  have hXs := X.2.2.2.2.1
  have hbl := X.2.2.2.2.2.1
  have hL := X.2.2.2.2.2.2.2.1
  refine lv_iload hx hb dL_law_23 (lv_at hl 0 rfl) ?_
  refine lv_aload_n hx hb dL_law_25 rfl (lv_at hl 1 rfl) ?_
  refine va_slen hx hb hXs hbl (zbA hbl) hS dL_law_26 ?_
  refine lv_iconst (v := 5) hx hb dL_law_27 (by decide) ?_
  refine lv_isub hx hb dL_law_28 ?_
  refine lv_icmp_gt (tgt := 1293) hx hb dL_law_29 (by decide) (fun _ => kout) (fun hg => ?_)
  have h5 : 5 * t + 5 ≤ L := Nat.not_lt.mp (fun h => hg ((guard_out hL ht).mpr h))
  have hcs := hcs (by omega)
  refine lv_aload_n hx hb dL_law_32 rfl (lv_at hl 1 rfl) ?_
  refine lv_iload hx hb dL_law_33 (lv_at hl 0 rfl) ?_
  refine va_sld hx hb hXs hbl (zbA hbl) hS (vp_in_nI (show 5 * t < L by omega) (by omega)) dL_law_35 ?_
  rw [nI_clamp (by omega)]
  refine lv_bipush (v := 31) hx hb dL_law_36 (by decide) ?_
  refine lv_iand hx hb dL_law_38 ?_
  obtain ⟨k, hk, ek⟩ := and31 (xs (5 * t))
  rw [ek]
  have K : ∀ (H1 : Heap) (locs1 : List Loc) (ls1 : Array Slot) (ov1 : Nat → Int64) (thr1 : Int32), zLI D ca y a h x o r rB F (t + 1) ov1 thr1 H1 → va_S (zAl s) s.heap H1 locs1 → lv_has ls1 9 (zLv b t (y 0) (o 0) (r 0)) → W p l e room_1 s m #[Value.ref b] below meth c H1 locs1 (cells + 1) (slots + 6) Q (F0 m 1287 ls1 []) := by
    intro H1 locs1 ls1 ov1 thr1 hI1 hS1 hl1
    refine lv_iinc (v := nI (5 * (t + 1))) (lv' := zLv b (t + 1) (y 0) (o 0) (r 0)) hx hb dL_law_1287 hl1 (k := 0) rfl (zinc (5 * t) 5) (by decide) rfl (fun ls2 hl2 => ?_)
    exact lv_goto (tgt := 23) hx hb dL_law_1290 (by decide) (kk h5 H1 locs1 ls2 ov1 thr1 hI1 hS1 hl2)
  by_cases w0 : k = 0
  · exact z_tabIn hx hb (x := k) (k := 0) w0 (by decide) dL_law_39 (by decide) (by decide) rfl (by decide) (st_put X hI hS hl h5 hcs K) (tgt := 144)
  by_cases w1 : k = 1
  · exact z_tabIn hx hb (x := k) (k := 1) w1 (by decide) dL_law_39 (by decide) (by decide) rfl (by decide) (st_take X hI hS hl h5 hcs K) (tgt := 200)
  by_cases w2 : k = 2
  · exact z_tabIn hx hb (x := k) (k := 2) w2 (by decide) dL_law_39 (by decide) (by decide) rfl (by decide) (st_change X hI hS hl h5 hcs K) (tgt := 256)
  by_cases w3 : k = 3
  · exact z_tabIn hx hb (x := k) (k := 3) w3 (by decide) dL_law_39 (by decide) (by decide) rfl (by decide) (st_open X hI hS hl h5 hcs K) (tgt := 324)
  by_cases w4 : k = 4
  · exact z_tabIn hx hb (x := k) (k := 4) w4 (by decide) dL_law_39 (by decide) (by decide) rfl (by decide) (st_close X hI hS hl h5 hcs K) (tgt := 380)
  by_cases w5 : k = 5
  · exact z_tabIn hx hb (x := k) (k := 5) w5 (by decide) dL_law_39 (by decide) (by decide) rfl (by decide) (st_sweep X hI hS hl h5 hcs K) (tgt := 436)
  by_cases w6 : k = 6
  · exact z_tabIn hx hb (x := k) (k := 6) w6 (by decide) dL_law_39 (by decide) (by decide) rfl (by decide) (st_sweepAll X hI hS hl h5 hcs K) (tgt := 492)
  by_cases w7 : k = 7
  · exact z_tabIn hx hb (x := k) (k := 7) w7 (by decide) dL_law_39 (by decide) (by decide) rfl (by decide) (st_ask X hI hS hl h5 hcs K) (tgt := 505)
  by_cases w8 : k = 8
  · exact z_tabIn hx hb (x := k) (k := 8) w8 (by decide) dL_law_39 (by decide) (by decide) rfl (by decide) (st_append X hI hS hl h5 hcs K) (tgt := 585)
  by_cases w9 : k = 9
  · exact z_tabIn hx hb (x := k) (k := 9) w9 (by decide) dL_law_39 (by decide) (by decide) rfl (by decide) (st_clearBuffer X hI hS hl h5 hcs K) (tgt := 641)
  by_cases w10 : k = 10
  · exact z_tabIn hx hb (x := k) (k := 10) w10 (by decide) dL_law_39 (by decide) (by decide) rfl (by decide) (st_firstError X hI hS hl h5 hcs K) (tgt := 654)
  by_cases w11 : k = 11
  · exact z_tabIn hx hb (x := k) (k := 11) w11 (by decide) dL_law_39 (by decide) (by decide) rfl (by decide) (st_play X hI hS hl h5 hcs K) (tgt := 667)
  by_cases w12 : k = 12
  · exact z_tabIn hx hb (x := k) (k := 12) w12 (by decide) dL_law_39 (by decide) (by decide) rfl (by decide) (st_undo X hI hS hl h5 hcs K) (tgt := 711)
  by_cases w13 : k = 13
  · exact z_tabIn hx hb (x := k) (k := 13) w13 (by decide) dL_law_39 (by decide) (by decide) rfl (by decide) (st_slot X hI hS hl h5 hcs K) (tgt := 755)
  by_cases w14 : k = 14
  · exact z_tabIn hx hb (x := k) (k := 14) w14 (by decide) dL_law_39 (by decide) (by decide) rfl (by decide) (st_page X hI hS hl h5 hcs K) (tgt := 823)
  by_cases w15 : k = 15
  · exact z_tabIn hx hb (x := k) (k := 15) w15 (by decide) dL_law_39 (by decide) (by decide) rfl (by decide) (st_asker X hI hS hl h5 hcs K) (tgt := 891)
  by_cases w16 : k = 16
  · exact z_tabIn hx hb (x := k) (k := 16) w16 (by decide) dL_law_39 (by decide) (by decide) rfl (by decide) (st_count X hI hS hl h5 hcs K) (tgt := 959)
  by_cases w17 : k = 17
  · exact z_tabIn hx hb (x := k) (k := 17) w17 (by decide) dL_law_39 (by decide) (by decide) rfl (by decide) (st_ifAsked X hI hS hl h5 hcs K) (tgt := 1015)
  by_cases w18 : k = 18
  · exact z_tabIn hx hb (x := k) (k := 18) w18 (by decide) dL_law_39 (by decide) (by decide) rfl (by decide) (st_lies X hI hS hl h5 hcs K) (tgt := 1107)
  by_cases w19 : k = 19
  · exact z_tabIn hx hb (x := k) (k := 19) w19 (by decide) dL_law_39 (by decide) (by decide) rfl (by decide) (st_cheapest X hI hS hl h5 hcs K) (tgt := 1163)
  by_cases w20 : k = 20
  · exact z_tabIn hx hb (x := k) (k := 20) w20 (by decide) dL_law_39 (by decide) (by decide) rfl (by decide) (st_holder X hI hS hl h5 hcs K) (tgt := 1219)
  by_cases w21 : k = 21
  · exact z_tabIn hx hb (x := k) (k := 21) w21 (by decide) dL_law_39 (by decide) (by decide) rfl (by decide) (st_marked X hI hS hl h5 hcs K) (tgt := 1232)
  by_cases w22 : k = 22
  · exact z_tabIn hx hb (x := k) (k := 22) w22 (by decide) dL_law_39 (by decide) (by decide) rfl (by decide) (st_digest X hI hS hl h5 hcs K) (tgt := 1273)
  refine z_tabOut hx hb (x := k) (by omega) dL_law_39 (by omega) (by decide) ?_ (tgt := 1287)
  refine W.widen (Nat.le_succ cells) (Nat.le_add_right slots 6) (K H locs ls ov thr ?_ hS hl)
  obtain ⟨Z, G, nx, sz, g, n, i, q, pl, dg, sf, sv, i2, wl, rm, rd, hh, hp, hr⟩ := hI
  exact ⟨Z, G, nx, sz, g, n, i, q, pl, dg, sf, sv, i2, wl, rm, rd, hh, hp.next, hr⟩
theorem law_loop (X : zCx p l s m c b L xs D ca y a h x o r rB F) (hr : meth.sig.returnType = ret) (hlocks : meth.locks = false) : ∀ (f t cells slots : Nat) (ov : Nat → Int64) (thr : Int32) (H : Heap) (locs : List Loc) (ls : Array Slot), t + f = 513 → cells + f ≤ 601024 → slots + 6 * f ≤ 7293034 → zLI D ca y a h x o r rB F t ov thr H → va_S (zAl s) s.heap H locs → lv_has ls 9 (zLv b t (y 0) (o 0) (r 0)) →
    W p l e room_1 s m #[Value.ref b] below meth c H locs cells slots (lw_Z below #[Value.ref b] s) (F0 m 23 ls []) := by
  have hx := X.1.1
  have hb := X.1.2.1
  have hL := X.2.2.2.2.2.2.2.1
  intro f
  induction f with
  | zero =>
    intro t cells slots ov thr H locs ls ht hc hsl hI hS hl
    refine law_turn X (by omega) hI hS hl (fun h => by omega) ?_ (fun h => by omega)
    refine va_forget (fun q hq => hS.2.2 q hq) ?_
    refine W.widen (k := 601024) (n := 7293034) (by omega) (by omega) ?_
    refine lv_iconst (v := 1) hx hb dL_law_1293 (by decide) ?_
    exact lw_ret (Drawn.sameBut.refl s.drawn lw_cs) hx hb hr hlocks dL_law_1294
  | succ f ih =>
    intro t cells slots ov thr H locs ls ht hc hsl hI hS hl
    refine law_turn X (by omega) hI hS hl (fun h => by omega) ?_ (fun h5 H1 locs1 ls1 ov1 thr1 hI1 hS1 hl1 => ih (t + 1) (cells + 1) (slots + 6) ov1 thr1 H1 locs1 ls1 (by omega) (by omega) (by omega) hI1 hS1 hl1)
    refine va_forget (fun q hq => hS.2.2 q hq) ?_
    refine W.widen (k := 601024) (n := 7293034) (by omega) (by omega) ?_
    refine lv_iconst (v := 1) hx hb dL_law_1293 (by decide) ?_
    exact lw_ret (Drawn.sameBut.refl s.drawn lw_cs) hx hb hr hlocks dL_law_1294
end LOOP
set_option maxRecDepth 100000 in
theorem whole_start {p : Program} {e : Env} {s : State} {m : MethodId} {below : List Frame} {meth : Method} {c : Code} (l : Launch) (hflags : l.flags = flags0) {b L : Nat} {xs : Nat → Int32} (hL : L ≤ 2560) (C0 : lw_At p s m meth c b L xs) : W p l e room_1 s m #[Value.ref b] below meth c s.heap [] 0 0 (lw_Z below #[Value.ref b] s) (entryFrame m ([Value.ref b] : List Value).toArray 9) := by
  obtain ⟨hx, hb, hr, hml, hown, hts0, hX, hbl, hlocks, hgv⟩ := id C0
  have hlt : l.stackTraces = false := by
    unfold Launch.stackTraces
    rw [hflags]
    decide +kernel
  have hts : ∀ w ∈ wAll, w.before #[Value.ref b] s = true := fun w h => hts0 w (wAll_tbl w h)
  have hk := st_pk hts0
  obtain ⟨D, ca, hK⟩ := st_kn hts hk.2.2.2.2
  have S : CallFix p m c cL_law 9 s #[Value.ref b] wAll RL := ⟨hx, hb, hml, hown, hts⟩
  have hA : ∀ q : Nat, s.heap.size ≤ q → zAl s q := fun _ h => h
  have hS : va_S (zAl s) s.heap s.heap [] := va_S.rf
  have hP : va_P D vwCl [] s.heap := fun k q h => by simp at h
  have hD : va_D (zAl s) [] := ⟨fun i j p q h => by simp at h, fun k q h => by simp at h⟩
  have hl := lv_entry ([.ref b]) (n := 9) (Nat.le_of_ble_eq_true rfl)
  rw [lg_entry_eq]
  generalize (lg_sl ([.ref b]) ++ List.replicate (9 - (lg_sl ([.ref b])).length) Slot.unset).toArray = ls at hl ⊢
  have hl : lv_has ls 9 [(0, .ref b)] := hl
  refine z_new (ci := 6) (fs := [.null, .null, .null]) S in_lay_X6 tyX6 tyX6_ok cl_L_8 it_X6 in_X6 hK hP hD hS hA rfl (by decide) (Nat.le_of_ble_eq_true rfl) (Nat.le_of_ble_eq_true rfl) dL_law_0 (fun q1 H hP hD hS => ?_)
  refine lv_dup hx hb dL_law_3 rfl ?_
  refine zcn (i := 0) S (c_X6_init l D ca s.heap.size q1 (hD.2 0 _ rfl)) ml_L_71 zy_X6_init im_X6_init rfl ⟨Nat.le_of_ble_eq_true rfl, Nat.le_of_ble_eq_true rfl⟩ hK hk hP hD hS hA hS.1 hA rfl hl.1 (Nat.le_of_ble_eq_true rfl) ⟨Nat.le_of_ble_eq_true rfl, Nat.le_of_ble_eq_true rfl⟩ dL_law_4 (fun a H locs ea hP hD hS => ?_)
  subst ea
  have hP : va_P D vwCl (zW6 ca a) H := hP
  have hD : va_D (zAl s) (zW6 ca a) := hD
  refine lv_astore_n (lv' := [(1, .ref (a 0)), (0, .ref b)]) hx hb dL_law_7 rfl hl (by decide) rfl (fun ls hl => ?_)
  refine z_new (ci := 7) (fs := [.int 0, .null, .null, .int 0, .null, .int 0, .int 0, .int 0, .null, .int 0, .long 0]) S in_lay_X7 tyX7 tyX7_ok cl_L_72 it_X7 in_X7 hK hP hD hS hA rfl (by decide) (Nat.le_of_ble_eq_true rfl) (Nat.le_of_ble_eq_true rfl) dL_law_8 (fun q2 H hP hD hS => ?_)
  refine lv_dup hx hb dL_law_11 rfl ?_
  refine zcn (i := 82) S (c_X7_init l D ca s.heap.size q2 (hD.2 82 _ rfl)) ml_L_74 zy_X7_init im_X7_init rfl ⟨Nat.le_of_ble_eq_true rfl, Nat.le_of_ble_eq_true rfl⟩ hK hk hP hD hS hA hS.1 hA rfl hl.1 (Nat.le_of_ble_eq_true rfl) ⟨Nat.le_of_ble_eq_true rfl, Nat.le_of_ble_eq_true rfl⟩ dL_law_12 (fun o H locs eo hP hD hS => ?_)
  subst eo
  have hP : va_P D vwCl (zW6 ca a ++ zW7 ca o) H := hP
  have hD : va_D (zAl s) (zW6 ca a ++ zW7 ca o) := hD
  refine lv_astore_n (lv' := [(2, .ref (o 0)), (1, .ref (a 0)), (0, .ref b)]) hx hb dL_law_15 rfl hl (by decide) rfl (fun ls hl => ?_)
  refine lv_iconst (v := nI 1) hx hb dL_law_16 (by decide) ?_
  refine z_newl S hK hP hD hS hA (n := 1) (by decide) (Nat.le_of_ble_eq_true rfl) (Nat.le_of_ble_eq_true rfl) dL_law_17 (fun r0 H hP hD hS => ?_)
  have hP : va_P D vwCl (zW0 ca a o r0) H := by
    unfold zW0
    rw [← List.append_assoc]
    exact hP
  have hD : va_D (zAl s) (zW0 ca a o r0) := by
    unfold zW0
    rw [← List.append_assoc]
    exact hD
  refine lv_astore_n (lv' := [(3, .ref r0), (2, .ref (o 0)), (1, .ref (a 0)), (0, .ref b)]) hx hb dL_law_19 rfl hl (by decide) rfl (fun ls hl => ?_)
  refine lv_iconst (v := nI (5 * 0)) hx hb dL_law_20 (by decide) ?_
  refine lv_istore (lv' := [(4, .int (nI (5 * 0))), (3, .ref r0), (2, .ref (o 0)), (1, .ref (a 0)), (0, .ref b)]) hx hb dL_law_21 hl (by decide) rfl (fun ls hl => ?_)
  obtain ⟨c6, i6, hkn⟩ : ∃ c6 i6, u_Kn s RX6 TX6 3 c6 i6 := ⟨_, _, hK.1 6 _ rfl⟩
  exact law_loop ⟨S, hK, sx_all hts0 hgv hkn.2.1, st_xt hts0 hgv, hX, hbl, st_ad hD, hL, hlt⟩ hr hlocks 513 0 _ _ _ _ H _ ls rfl (Nat.le_of_ble_eq_true rfl) (Nat.le_of_ble_eq_true rfl) (st_li hP) hS (lv_sub hl [0, 4, 3, 2, 1] rfl)
