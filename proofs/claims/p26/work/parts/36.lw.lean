/-! THE LAW'S LEVEL: worlds by name, the script's cell, rows for calls that write -/
def zWh (ca : Nat → ClassId) (y a h x : Nat → Nat) (F : Nat → Option Nat) (nx sz : Nat) : va_W := [(y 0, .inr (6, [.ref (a 0), .ref (h 0), .ref (x 0)])), (h 0, .inr (1, [.ref (h 1), .int (nI nx), .int (nI sz)])), (h 1, .inl (ca 3, 6, .inr (.inr (.inr (.inr F)))))]
def zWb (ca : Nat → ClassId) (b : Nat → Nat) (G : zSt) : va_W := [(b 0, .inr (2, [.ref (b 1), .ref (b 6), .ref (b 9)])), (b 1, .inr (3, [.ref (b 2), .ref (b 3), .ref (b 4), .ref (b 5), .int G.1.2.2.2.2.1, .int G.1.2.2.2.2.2])), (b 2, .inl (ca 0, 24, .inl G.1.1)), (b 3, .inl (ca 0, 24, .inl G.1.2.1)), (b 4, .inl (ca 0, 24, .inl G.1.2.2.1)), (b 5, .inl (ca 0, 6, .inl G.1.2.2.2.1)), (b 6, .inr (0, [.ref (b 7), .ref (b 8)])), (b 7, .inl (ca 0, 4, .inl G.2.1.1)), (b 8, .inl (ca 0, 4, .inl G.2.1.2)), (b 9, .inr (4, [.ref (b 10), .int G.2.2.2.1, .int G.2.2.2.2])), (b 10, .inl (ca 0, 3, .inl G.2.2.1))]
def zWd (ca : Nat → ClassId) (y a h x : Nat → Nat) (F : Nat → Option Nat) (Z : zSt) (nx sz : Nat) : va_W := zWh ca y a h x F nx sz ++ zWb ca a Z
def zWC (ca : Nat → ClassId) (y a b h x : Nat → Nat) (F : Nat → Option Nat) (G Z : zSt) (nx sz : Nat) : va_W := zWh ca y a h x F nx sz ++ (zWb ca b G ++ zWb ca a Z)
def zLb (b : Nat → Nat) : List Nat := [b 0, b 1, b 2, b 3, b 4, b 5, b 6, b 7, b 8, b 9, b 10]
def zLd (y a h : Nat → Nat) : List Nat := [y 0, h 0, h 1] ++ zLb a
def zLC (y a b h : Nat → Nat) : List Nat := [y 0, h 0, h 1] ++ (zLb b ++ zLb a)
def zKp (LA : List Nat) (H H1 : Heap) : Prop := H.size ≤ H1.size ∧ ∀ q : Nat, q < H.size → ¬ zA LA q → H1[q]? = H[q]?
theorem va_P.kp {D : va_G} {W : va_W} {LA LB : List Nat} {H H1 : Heap} (h : va_P D vwCl W H) (hk : zKp LA H H1) (hW : W.map Prod.fst = LB) (hd : ∀ q ∈ LB, q ∉ LA) : va_P D vwCl W H1 :=
  h.kept (fun k q hq => hk.2 _ (h k q hq).lt (hd _ (by rw [← hW]; exact List.mem_map_of_mem (List.mem_of_getElem? hq))))
/-- the script's cell: a small method of the law -/
def zMc (l : Launch) (b L : Nat) (xs : Nat → Int32) (k : Nat) : Prop :=
  Met l yL_cell (Cond.code yL_cell cL_cell 2 (some .int) :: wAll) { frames := 0, cells := 0, slots := 0, locals := 0 } (va_Pc [.ref b, .int (nI k)] (fun U => va_X b L xs U U.heap ∧ b < U.heap.size)) (fun _ st o t => o = .returned (some (.int (zcel xs L k))) ∧ t.heap = st.heap) 0 0 (fun _ => False)
theorem zcblind {b L : Nat} {xs : Nat → Int32} {As : List Value} : FrameBlind (va_Pc As (fun U => va_X b L xs U U.heap ∧ b < U.heap.size)) := fun a U g mk q => by
  obtain ⟨q0, q1, q2⟩ := q
  exact ⟨q0, va_X.moved (u := U) (U := U.calling g mk a) (Vm.Alike.refl U.vm) q1, q2⟩
theorem c_L_cell (l : Launch) (b L : Nat) (xs : Nat → Int32) (k : Nat) (hL : L ≤ 260) (hk : k < 100) : zMc l b L xs k := by
  refine Met.ofW (cc := cL_cell) (maxL := 2) (ret := some .int) (by decide) rfl ?_
  intro p e s m args below meth c s₁ B hml hv
  obtain ⟨rfl, hX, hbl⟩ := hv
  have hl := lv_entry [.ref b, .int (nI k)] (n := 2) (Nat.le_of_ble_eq_true rfl)
  rw [lg_entry_eq]
  have hts := atoms_spec (ws := Cond.code yL_cell cL_cell 2 (some .int) :: wAll) B.pre
  have hx := B.exec
  have hb := B.bytes
  have hr := B.returns
  have hlk := B.notSynchronized
  generalize (lg_sl ([.ref b, .int (nI k)])  ++ List.replicate (2 - (lg_sl ([.ref b, .int (nI k)])).length) Slot.unset).toArray = ls at hl ⊢
  have hl : lv_has ls 2 [(0, .ref b), (1, .int (nI k))] := hl
  have hbA : ¬ (fun _ : Nat => False) b := fun h => h
  have hS : va_S (fun _ : Nat => False) s.heap s.heap [] := va_S.rf
  refine lv_iload_n hx hb dL_cell_0 rfl (lv_at hl 1 rfl) ?_
  refine lv_aload_n hx hb dL_cell_1 rfl (lv_at hl 0 rfl) ?_
  refine va_slen hx hb hX hbl hbA hS dL_cell_2 ?_
  refine lv_icmp_ge (tgt := 12) hx hb dL_cell_3 (by decide) (fun h => ?_) (fun h => ?_)
  · have h1 : ¬ k < L := by
      have h2 : nI L ≤ nI k := h
      rw [le_iff, nI_toInt (by omega), nI_toInt (by omega)] at h2
      omega
    refine lv_sipush (v := 7919) hx hb dL_cell_12 (by decide) ?_
    refine lv_iload_n hx hb dL_cell_15 rfl (lv_at hl 1 rfl) ?_
    refine lv_iconst (v := nI 3) hx hb dL_cell_16 (by decide) ?_
    refine zn_add hx hb (x := k) (y := 3) (z := k + 3) rfl dL_cell_17 ?_
    refine zn_mul hx hb (x := 7919) (y := k + 3) (z := 7919 * (k + 3)) rfl dL_cell_18 ?_
    refine lv_iload_n hx hb dL_cell_19 rfl (lv_at hl 1 rfl) ?_
    refine lv_bipush (v := nI 11) hx hb dL_cell_20 (by decide) ?_
    refine zn_add hx hb (x := k) (y := 11) (z := k + 11) rfl dL_cell_22 ?_
    refine zn_mul hx hb (x := 7919 * (k + 3)) (y := k + 11) (z := 7919 * (k + 3) * (k + 11)) rfl dL_cell_23 ?_
    exact zr_i hx hb hr hlk (by unfold zcel; rw [if_neg h1]) dL_cell_24
  · have h1 : k < L := by
      have h2 : ¬ nI L ≤ nI k := h
      rw [le_iff, nI_toInt (by omega), nI_toInt (by omega)] at h2
      omega
    refine lv_aload_n hx hb dL_cell_6 rfl (lv_at hl 0 rfl) ?_
    refine lv_iload_n hx hb dL_cell_7 rfl (lv_at hl 1 rfl) ?_
    refine va_sld hx hb hX hbl hbA hS (vp_in_nI h1 (by omega)) dL_cell_8 ?_
    rw [nI_clamp (by omega)]
    refine lv_goto (tgt := 24) hx hb dL_cell_9 (by decide) ?_
    exact zr_i hx hb hr hlk (by unfold zcel; rw [if_pos h1]) dL_cell_24
section ZG
variable {p : Program} {l : Launch} {e : Env} {R : Room} {s : State} {m : MethodId} {args : Array Value} {below : List Frame} {meth : Method} {c : Code} {H : Heap} {locs : List Loc} {cells slots : Nat} {Q : State → Prop}
variable {cc : ByteArray} {nL : Nat} {own : String} {pc : Nat} {ls : Array Slot} {rest : List Value} {D : va_G} {ca : Nat → ClassId} {A : Nat → Prop} {H0 : Heap} {LA : List Nat}
theorem zg_sw {y : MethodName} {b : ByteArray} {nY : Nat} {rt : Option FieldType} {n index : Nat} (hl : Cond.methodLink own index y ∈ wAll) (hY : zY y b nY rt n) (hstt : Cond.static y ∈ wAll) : GoodIn wAll (va_wsS own index y (Cond.code y b nY rt :: wAll)) := zgood (fun w hw => by
    unfold va_wsS at hw
    rcases List.mem_append.mp hw with h | h
    · simp only [List.mem_cons, List.not_mem_nil, or_false] at h
      rcases h with h | h | h <;> rw [h]
      · exact hl
      · exact hstt
      · exact hY.2.1
    · rcases List.mem_cons.mp h with h | h
      · rw [h]; exact hY.1
      · exact h)
theorem zg_vw {y : MethodName} {b : ByteArray} {nY : Nat} {rt : Option FieldType} {n index : Nat} (hl : Cond.methodLink own index y ∈ wAll) (hY : zY y b nY rt n) (him : Cond.instanceMethod y ∈ wAll) (hse : Cond.selects y.cls y y ∈ wAll) : GoodIn wAll (wsV own index y.cls y (Cond.code y b nY rt :: wAll)) := zgood (fun w hw => by
    unfold wsV at hw
    rcases List.mem_append.mp hw with h | h
    · simp only [List.mem_cons, List.not_mem_nil, or_false] at h
      rcases h with h | h | h | h <;> rw [h]
      · exact hl
      · exact him
      · exact hse
      · exact hY.2.1
    · rcases List.mem_cons.mp h with h | h
      · rw [h]; exact hY.1
      · exact h)
/-- a call of the script's cell -/
theorem zgc {b L k index : Nat} {xs : Nat → Int32} {st0 : List Value} (S : CallFix p m c cc nL s args wAll own) (hM : zMc l b L xs k) (hX : va_X b L xs s s.heap) (hbl : b < s.heap.size) (hbA : ¬ A b) (hS : va_S A s.heap H locs) (hl : Cond.methodLink own index yL_cell ∈ wAll)
    (hR : 1 ≤ R.frames ∧ 8 + (2 + 11) ≤ R.locals) (hsz : ls.size = nL) (hst : st0 = .int (nI k) :: .ref b :: rest) (hroom : (rest.map fun v => v.category).sum ≤ 8) (hcs : cells ≤ R.cells ∧ slots ≤ R.slots) (hdg : decode cc pc = .ok (.invokestatic index, 3))
    (kk : W p l e R s m args below meth c H locs cells slots Q (F0 m (pc + 3) ls (.int (zcel xs L k) :: rest))) : W p l e R s m args below meth c H locs cells slots Q (F0 m pc ls st0) := by
  have hXH : va_X b L xs s H := hX.kept (hS.2.1 b hbl hbA)
  have hbH : b < H.size := Nat.lt_of_lt_of_le hbl hS.1
  have hcw := va_cwS (R := R) (mc := 0) (ms := 0) (rm := { frames := 0, cells := 0, slots := 0, locals := 0 }) (ws := Cond.code yL_cell cL_cell 2 (some .int) :: wAll) 2 S.2.2.2.2 (zg_sw hl zy_L_cell st_L_cell) rfl rfl rfl ⟨zy_L_cell.2.2.1, zy_L_cell.2.2.2.1, zy_L_cell.2.2.2.2⟩ ⟨by simpa using hR.1, by simpa using hR.2⟩
  have hrun := va_runS (rest := rest) (g := F0 m pc ls st0) (H := H) (locs := locs) (cells := cells) (slots := slots) (below := below) (e := e) (meth := meth) S hM hcw ⟨zcblind, fun U hU hW => ⟨rfl, by rw [hU]; exact va_X.moved hW.alike hXH, by rw [hU]; exact hbH⟩⟩ rfl rfl hsz hst (lv_room hroom) hdg ⟨by simpa using hcs.1, by simpa using hcs.2⟩
  intro T hT X
  obtain ⟨v, st₀, t, T', L2, h0, X', hL, e1, -, ⟨hv, hh⟩, st⟩ := hrun T hT X
  cases hv
  obtain ⟨t2, a1, b1⟩ := kk T' (by rw [e1, hh, h0]) (Stand.forget X' (fun q h => (hL q h).elim))
  exact ⟨t2, st t2 a1, b1⟩
theorem zg_end {w w' : va_W} {rv : Value} {st0 : List Value} {a9 : Array Value}
    (hrun : va_Run p l e R s m args below meth c H locs cells slots 0 0 (F0 m pc ls st0) rest (zQw D (w.map Prod.fst) w' (some rv) a9) (zA (w.map Prod.fst)))
    (hw : w.map Prod.fst = LA) (hA : ∀ q ∈ LA, A q) (hS : va_S A H0 H locs)
    (kk : ∀ (H1 : Heap) (locs1 : List Loc), va_P D vwCl w' H1 → va_S A H0 H1 locs1 → zKp LA H H1 → W p l e R s m args below meth c H1 locs1 cells slots Q (F0 m (pc + 3) ls (rv :: rest))) : W p l e R s m args below meth c H locs cells slots Q (F0 m pc ls st0) := by
  subst hw
  intro T hT X
  obtain ⟨v, st₀, t, T', L, h0, X', hL, e1, -, ⟨hv, hp1, hz, hk⟩, st⟩ := hrun T hT X
  cases hv
  rw [h0] at hz hk
  have hk' : ∀ q : Nat, q < H.size → ¬ zA (w.map Prod.fst) q → T'.heap[q]? = H[q]? := fun q h1 h2 => by rw [e1]; exact hk q h1 h2
  obtain ⟨t2, a1, b1⟩ := kk T'.heap (locs ++ L) (by rw [e1]; exact hp1) ⟨Nat.le_trans hS.1 (by rw [e1]; exact hz), fun q q1 q2 => by rw [hk' q (Nat.lt_of_lt_of_le q1 hS.1) (fun z => q2 (hA q z))]; exact hS.2.1 q q1 q2, fun q hq => by
      rcases List.mem_append.mp hq with h | h
      · exact hS.2.2 q h
      · exact hA _ (hL q h)⟩ ⟨by rw [e1]; exact hz, hk'⟩ T' rfl X'
  exact ⟨t2, st t2 a1, b1⟩
theorem zgs {y : MethodName} {b : ByteArray} {nY fr lo : Nat} {rt : Option FieldType} {n index : Nat} {w w' : va_W} {As : List Value} {rv : Value} {st0 : List Value} (S : CallFix p m c cc nL s args wAll own) (hM : zMw l y b nY rt fr lo D ca w w' As (some rv)) (hw : w.map Prod.fst = LA) (hl : Cond.methodLink own index y ∈ wAll) (hY : zY y b nY rt n) (hstt : Cond.static y ∈ wAll)
    (hR : fr + 1 ≤ R.frames ∧ 8 + (nY + 11) + lo ≤ R.locals) (hK : zK D ca s) (hP : va_P D vwCl w H) (hA : ∀ q ∈ LA, A q) (hS : va_S A H0 H locs) (hn : As.length = n) (hsz : ls.size = nL) (hst : st0 = As.reverse ++ rest) (hroom : (rest.map fun v => v.category).sum ≤ 8) (hcs : cells ≤ R.cells ∧ slots ≤ R.slots) (hdg : decode cc pc = .ok (.invokestatic index, 3))
    (kk : ∀ (H1 : Heap) (locs1 : List Loc), va_P D vwCl w' H1 → va_S A H0 H1 locs1 → zKp LA H H1 → W p l e R s m args below meth c H1 locs1 cells slots Q (F0 m (pc + 3) ls (rv :: rest))) : W p l e R s m args below meth c H locs cells slots Q (F0 m pc ls st0) := by
  have hcw := va_cwS (R := R) (mc := 0) (ms := 0) (rm := { frames := fr, cells := 0, slots := 0, locals := lo }) (ws := Cond.code y b nY rt :: wAll) n S.2.2.2.2 (zg_sw hl hY hstt) rfl rfl rfl ⟨hY.2.2.1, hY.2.2.2.1, hY.2.2.2.2⟩ hR
  have hrun := va_runS (rest := rest) (g := F0 m pc ls st0) (H := H) (locs := locs) (cells := cells) (slots := slots) (below := below) (e := e) (meth := meth) S hM hcw ⟨zblind, fun U hU hW => ⟨rfl, by rw [hU]; exact hP, va_K.moved hW.alike hK⟩⟩ rfl hn hsz hst (lv_room hroom) hdg ⟨by simpa using hcs.1, by simpa using hcs.2⟩
  exact zg_end (a9 := #[]) hrun hw hA hS kk
theorem zgv {y : MethodName} {b : ByteArray} {nY fr lo : Nat} {rt : Option FieldType} {n index ci q q0 : Nat} {fs : List Value} {r : vw_C} {w w' : va_W} {As : List Value} {rv : Value} {st0 : List Value} (S : CallFix p m c cc nL s args wAll own) (hM : zMw l y b nY rt fr lo D ca w w' (.ref q :: As) (some rv)) (hw : w.map Prod.fst = LA) (hl : Cond.methodLink own index y ∈ wAll) (hY : zY y b nY rt n) (him : Cond.instanceMethod y ∈ wAll) (hse : Cond.selects y.cls y y ∈ wAll)
    (hR : fr + 1 ≤ R.frames ∧ 8 + (nY + 11) + lo ≤ R.locals) (hK : zK D ca s) (hP : va_P D vwCl w H) (hA : ∀ q ∈ LA, A q) (hS : va_S A H0 H locs) (hq : w[q0]? = some (q, .inr (ci, fs))) (hc : vwCl[ci]? = some r) (hr : y.cls = r.1) (hn : As.length = n) (hsz : ls.size = nL) (hst : st0 = As.reverse ++ .ref q :: rest) (hroom : (rest.map fun v => v.category).sum ≤ 8) (hcs : cells ≤ R.cells ∧ slots ≤ R.slots) (hdg : decode cc pc = .ok (.invokevirtual index, 3))
    (kk : ∀ (H1 : Heap) (locs1 : List Loc), va_P D vwCl w' H1 → va_S A H0 H1 locs1 → zKp LA H H1 → W p l e R s m args below meth c H1 locs1 cells slots Q (F0 m (pc + 3) ls (rv :: rest))) : W p l e R s m args below meth c H locs cells slots Q (F0 m pc ls st0) := by
  have hcw : CallW R s args own y.cls index y b nY rt (Cond.code y b nY rt :: wAll) { frames := fr, cells := 0, slots := 0, locals := lo } 0 0 n := cwV n S.2.2.2.2 (zg_vw hl hY him hse) rfl rfl rfl ⟨rfl, hY.2.2.1, hY.2.2.2.1, hY.2.2.2.2⟩ hR
  have hrun := va_runV (rest := rest) (g := F0 m pc ls st0) (H := H) (locs := locs) (cells := cells) (slots := slots) (below := below) (e := e) (meth := meth) S hM hcw ⟨zblind, hr ▸ va_recv hK hP hc hq, fun U hU hW => ⟨rfl, by rw [hU]; exact hP, va_K.moved hW.alike hK⟩⟩ rfl hn hsz hst (lv_room hroom) hdg ⟨by simpa using hcs.1, by simpa using hcs.2⟩
  exact zg_end (a9 := #[]) hrun hw hA hS kk
end ZG
/-! the law's invariant -/
def zAD (y a h : Nat → Nat) (rB : Nat → Nat → Nat) (F : Nat → Option Nat) (N : Nat) : Prop :=
  (∀ j, j < 6 → (zLC y a (rB j) h).Nodup) ∧ (∀ i j, i < 6 → j < 6 → i ≠ j → ∀ q ∈ zLb (rB i), q ∉ zLb (rB j)) ∧ (∀ q ∈ zLd y a h, N ≤ q) ∧ (∀ j, j < 6 → ∀ q ∈ zLb (rB j), N ≤ q) ∧ ∀ j, j < 6 → F j = some (rB j 0)
theorem ad_nb {y a h : Nat → Nat} {rB : Nat → Nat → Nat} {F : Nat → Option Nat} {N : Nat} (C : zAD y a h rB F N) {j : Nat} (hj : j < 6) : ∀ q ∈ zLC y a (rB j) h, N ≤ q := fun q hq => by
  rcases List.mem_append.mp hq with h1 | h1
  · exact C.2.2.1 q (List.mem_append_left _ h1)
  · rcases List.mem_append.mp h1 with h2 | h2
    · exact C.2.2.2.1 j hj q h2
    · exact C.2.2.1 q (List.mem_append_right _ h2)
theorem ad_bb {y a h : Nat → Nat} {rB : Nat → Nat → Nat} {F : Nat → Option Nat} {N : Nat} (C : zAD y a h rB F N) {i j : Nat} (hi : i < 6) (hj : j < 6) (hn : i ≠ j) : ∀ q ∈ zLb (rB i), q ∉ zLC y a (rB j) h := fun q h1 h2 => by
  have hN := C.1 i hi
  unfold zLC at hN h2
  rcases List.mem_append.mp h2 with h3 | h3
  · exact (List.nodup_append.mp hN).2.2 q h3 q (List.mem_append_left _ h1) rfl
  · rcases List.mem_append.mp h3 with h4 | h4
    · exact C.2.1 i j hi hj hn q h1 h4
    · exact (List.nodup_append.mp (List.nodup_append.mp hN).2.1).2.2 q h1 q h4 rfl
def zGu (G : Nat → zSt) (nx : Nat) (Z : zSt) : Nat → zSt := fun j => if j = nx then Z else G j
def zLI (D : va_G) (ca : Nat → ClassId) (y a h x : Nat → Nat) (rB : Nat → Nat → Nat) (F : Nat → Option Nat) (Z : zSt) (G : Nat → zSt) (nx sz B : Nat) (H : Heap) : Prop :=
  nx < 6 ∧ sz ≤ 6 ∧ zIv Z B ∧ (∀ j, j < 6 → zIv (G j) B) ∧ va_P D vwCl (zWd ca y a h x F Z nx sz) H ∧ ∀ j, j < 6 → va_P D vwCl (zWb ca (rB j) (G j)) H
theorem zLI.mono {D : va_G} {ca : Nat → ClassId} {y a h x : Nat → Nat} {rB : Nat → Nat → Nat} {F : Nat → Option Nat} {Z : zSt} {G : Nat → zSt} {nx sz B C : Nat} {H : Heap} (hI : zLI D ca y a h x rB F Z G nx sz B H) (hBC : B ≤ C) : zLI D ca y a h x rB F Z G nx sz C H := ⟨hI.1, hI.2.1, hI.2.2.1.mono hBC, fun j hj => (hI.2.2.2.1 j hj).mono hBC, hI.2.2.2.2⟩
