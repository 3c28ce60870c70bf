/-! THE LAW'S LEVEL: worlds by name (class zWd, a saved state's block zWb, reference zWm); one call as a step from world to world; its rows -/
def zWd (ca : Nat → ClassId) (y : Nat → Nat) (a : Nat → Nat) (h : Nat → Nat) (x : Nat → Nat) (r : Nat → Nat) (F : Nat → Option Nat) (ov : Nat → Int64) (Z : zSt) (nx : Nat) (sz : Nat) (g : Nat → Nat) (n : Nat) (i : Nat) (q : Nat) (pl : Nat) (dg : Nat) : va_W := [(r 0, .inl (ca 2, 1, .inr (.inl ov))), (y 0, .inr (6, [.ref (a 0), .ref (h 0), .ref (x 0)])), (h 0, .inr (1, [.ref (h 1), .int (nI nx), .int (nI sz)])), (h 1, .inl (ca 3, 6, .inr (.inr (.inr (.inr F))))), (a 0, .inr (2, [.ref (a 1), .ref (a 6), .ref (a 9)])), (a 1, .inr (3, [.ref (a 2), .ref (a 3), .ref (a 4), .ref (a 5), .int Z.1.2.2.2.2.1, .int Z.1.2.2.2.2.2])), (a 2, .inl (ca 0, 24, .inl Z.1.1)), (a 3, .inl (ca 0, 24, .inl Z.1.2.1)), (a 4, .inl (ca 0, 24, .inl Z.1.2.2.1)), (a 5, .inl (ca 0, 6, .inl Z.1.2.2.2.1)), (a 6, .inr (0, [.ref (a 7), .ref (a 8)])), (a 7, .inl (ca 0, 4, .inl Z.2.1.1)), (a 8, .inl (ca 0, 4, .inl Z.2.1.2)), (a 9, .inr (4, [.ref (a 10), .int Z.2.2.2.1, .int Z.2.2.2.2])), (a 10, .inl (ca 0, 3, .inl Z.2.2.1)), (x 0, .inr (5, [.ref (x 1), .int (nI n), .int (nI i), .int (nI q), .int (nI pl), .int (nI dg)])), (x 1, .inl (ca 1, 60, .inl (fun k => nI (g k))))]
def zWb (ca : Nat → ClassId) (b : Nat → Nat) (G : zSt) : va_W := [(b 0, .inr (2, [.ref (b 1), .ref (b 6), .ref (b 9)])), (b 1, .inr (3, [.ref (b 2), .ref (b 3), .ref (b 4), .ref (b 5), .int G.1.2.2.2.2.1, .int G.1.2.2.2.2.2])), (b 2, .inl (ca 0, 24, .inl G.1.1)), (b 3, .inl (ca 0, 24, .inl G.1.2.1)), (b 4, .inl (ca 0, 24, .inl G.1.2.2.1)), (b 5, .inl (ca 0, 6, .inl G.1.2.2.2.1)), (b 6, .inr (0, [.ref (b 7), .ref (b 8)])), (b 7, .inl (ca 0, 4, .inl G.2.1.1)), (b 8, .inl (ca 0, 4, .inl G.2.1.2)), (b 9, .inr (4, [.ref (b 10), .int G.2.2.2.1, .int G.2.2.2.2])), (b 10, .inl (ca 0, 3, .inl G.2.2.1))]
def zWm (ca : Nat → ClassId) (o : Nat → Nat) (thr : Int32) (sf : Nat → Int32) (sv : Nat → Int32) (mm : Nat) (n : Nat) (i : Nat) (wl : Bool) (rm : Nat) (g : Nat → Nat) (rd : Nat → Int32) (hh : Int64) : va_W := [(o 0, .inr (7, [.int thr, .ref (o 1), .ref (o 2), .int (nI mm), .ref (o 3), .int (nI n), .int (nI i), .int (zb wl), .ref (o 4), .int (nI rm), .long hh])), (o 1, .inl (ca 0, 99, .inl sf)), (o 2, .inl (ca 0, 594, .inl sv)), (o 3, .inl (ca 0, 60, .inl (fun k => nI (g k)))), (o 4, .inl (ca 0, 93, .inl rd))]
def zLd (y : Nat → Nat) (a : Nat → Nat) (h : Nat → Nat) (x : Nat → Nat) (r : Nat → Nat) : List Nat := [r 0, y 0, h 0, h 1, a 0, a 1, a 2, a 3, a 4, a 5, a 6, a 7, a 8, a 9, a 10, x 0, x 1]
def zLb (b : Nat → Nat) : List Nat := [b 0, b 1, b 2, b 3, b 4, b 5, b 6, b 7, b 8, b 9, b 10]
def zLm (o : Nat → Nat) : List Nat := [o 0, o 1, o 2, o 3, o 4]
def zXl : List (String × Nat × String) := [(xIO, 66, "place is not 0 to 23"), (xIA, 174, "what is not 0 to 3"), (xIO, 105, "page is not 0 to 5"), (xIA, 179, "what is not 0 to 4"), (xIO, 88, "asker is not 0 to 3"), (xIA, 184, "what is not 0 to 2"), (xIA, 189, "what is not 0 to 12"), (xIA, 36, "value is not 0 to 9"), (xIA, 194, "snapshot is not 0 to the clock"), (xIA, 117, "value is not 0 to 9, or way not 0 to 2"), (xIA, 196, "what is not 0 to 1"), (xIS, 53, "there is no empty slot"), (xIS, 73, "no version there is seen by the clock"), (xIS, 82, "no version there is seen by the clock, or no slot is empty"), (xIS, 103, "the asker has no snapshot"), (xIA, 142, "code is not 33 to 126"), (xIS, 147, "the buffer is full"), (xIA, 161, "the buffer is not complete changes as a text"), (xIS, 169, "no state is saved")]
/-- a call whose own world is 'w' before and w' behind, seen from a world W that holds it -/
def zOn (D : va_G) (W W1 w w' : va_W) (LA : List Nat) : Prop := (w.map Prod.fst).Nodup ∧ (∀ q ∈ w.map Prod.fst, q ∈ LA) ∧ w'.map Prod.fst = w.map Prod.fst ∧ (∀ H, va_P D vwCl W H → va_P D vwCl w H) ∧ ∀ H H1, va_P D vwCl W H → va_P D vwCl w' H1 → (∀ q : Nat, q < H.size → ¬ zA (w.map Prod.fst) q → H1[q]? = H[q]?) → va_P D vwCl W1 H1
theorem zOn_of {D : va_G} {W W1 w w' : va_W} {LA : List Nat} (hN : LA.Nodup) (hLA : W.map Prod.fst = LA) (is : List Nat) (js : List (Nat ⊕ Nat)) (hn : va_nd is = true) (hC : is.map (fun i => W[i]?) = w.map some) (hl : w'.map Prod.fst = w.map Prod.fst) (hok : js.all (zsok is) = true) (hj : js.map (zsel W w') = W1.map some) : zOn D W W1 w w' LA := by
  have hCf : is.filterMap (fun i => W[i]?) = w := by
    have h1 : (is.map (fun i => W[i]?)).filterMap id = (w.map some).filterMap id := by rw [hC]
    rw [List.filterMap_map, List.filterMap_map] at h1
    simpa [Function.comp_def] using h1
  refine ⟨znd_pick hN is hn ?_, fun q hq => ?_, hl, fun H h => h.sub is hCf, fun H H1 hP hP1 hk => ?_⟩
  · have h1 := congrArg (List.map (Option.map Prod.fst)) hC
    rw [List.map_map, List.map_map] at h1
    rw [List.map_map, ← hLA]
    refine Eq.trans (List.map_congr_left (fun i _ => ?_)) h1
    rw [List.getElem?_map]
    rfl
  · obtain ⟨c, hc, rfl⟩ := List.mem_map.mp hq
    rw [← hCf] at hc
    obtain ⟨i, -, hi⟩ := List.mem_filterMap.mp hc
    rw [← hLA]
    exact List.mem_map_of_mem (List.mem_of_getElem? hi)
  · have hD : va_D (fun _ => True) W := zDto hN (fun _ _ => trivial) hLA
    exact zsetP (zback hP hD hC hl hk hP1) hn hC (by simpa using congrArg List.length hl) hok hj
/-- one of the law's small methods, thrown at or not -/
def zLk (l : Launch) (y : MethodName) (b : ByteArray) (nY : Nat) (hh : List (Nat × Nat × Nat × Nat)) (D : va_G) (ca : Nat → ClassId) (w w' : va_W) (As : List Value) (rv : Value) : Prop :=
  (∃ (fr lo : Nat), fr ≤ 8 ∧ lo ≤ 200 ∧ zMl l y b nY hh fr lo D ca w w' As rv) ∨ ∃ (fr lo : Nat) (X : String) (k : Nat) (tx : String), fr ≤ 8 ∧ lo ≤ 200 ∧ (X, k, tx) ∈ zXl ∧ zMlx l y b nY hh fr lo D ca w w' As rv X k tx
def zOneL (l : Launch) (D : va_G) (ca : Nat → ClassId) (y : MethodName) (b : ByteArray) (nY : Nat) (hh : List (Nat × Nat × Nat × Nat)) (LA : List Nat) (W W1 : va_W) (As : List Value) (rv : Value) : Prop := ∃ (w w' : va_W), zLk l y b nY hh D ca w w' As rv ∧ zOn D W W1 w w' LA
def zOneM (l : Launch) (D : va_G) (ca : Nat → ClassId) (y : MethodName) (b : ByteArray) (nY : Nat) (rt : Option FieldType) (ci q : Nat) (LA : List Nat) (W W1 : va_W) (As : List Value) (rv : Value) : Prop := ∃ (fr lo : Nat) (w w' : va_W) (q0 : Nat) (fs : List Value), fr ≤ 8 ∧ lo ≤ 200 ∧ zMw l y b nY rt fr lo D ca w w' (.ref q :: As) (some rv) ∧ w[q0]? = some (q, .inr (ci, fs)) ∧ zOn D W W1 w w' LA
def zOneR (l : Launch) (D : va_G) (ca : Nat → ClassId) (y : MethodName) (b : ByteArray) (nY : Nat) (rt : Option FieldType) (ci q : Nat) (W : va_W) (As : List Value) (rv : Value) : Prop := ∃ (fr lo : Nat) (w : va_W) (q0 : Nat) (fs : List Value), fr ≤ 8 ∧ lo ≤ 200 ∧ zMr l y b nY rt fr lo D ca w (.ref q :: As) rv ∧ w[q0]? = some (q, .inr (ci, fs)) ∧ ∀ H, va_P D vwCl W H → va_P D vwCl w H
def zXA (s : State) : Prop := ∀ X k tx, (X, k, tx) ∈ zXl → zXw X s ∧ zXs k tx s ∧ zNcs X s
def zKp (LA : List Nat) (H H1 : Heap) : Prop := H.size ≤ H1.size ∧ ∀ q : Nat, q < H.size → ¬ zA LA q → H1[q]? = H[q]?
theorem va_P.kp {D : va_G} {W : va_W} {LA LB : List Nat} {H H1 : Heap} (h : va_P D vwCl W H) (hk : zKp LA H H1) (hW : W.map Prod.fst = LB) (hd : ∀ q ∈ LB, q ∉ LA) : va_P D vwCl W H1 :=
  h.kept (fun k q hq => hk.2 _ (h k q hq).lt (hd _ (by rw [← hW]; exact List.mem_map_of_mem (List.mem_of_getElem? hq))))
theorem zKp.trans {LA LB : List Nat} {H H1 H2 : Heap} (h : zKp LA H H1) (h2 : zKp LB H1 H2) : zKp (LA ++ LB) H H2 := ⟨Nat.le_trans h.1 h2.1, fun q hq hn => by
  rw [h2.2 q (Nat.lt_of_lt_of_le hq h.1) (fun z => hn (List.mem_append_right _ z)), h.2 q hq (fun z => hn (List.mem_append_left _ z))]⟩
section ZG
variable {p : Program} {l : Launch} {e : Env} {R : Room} {s : State} {m : MethodId} {args : Array Value} {below : List Frame} {meth : Method} {c : Code} {H : Heap} {locs : List Loc} {cells slots : Nat} {Q : State → Prop}
variable {cc : ByteArray} {nL : Nat} {own : String} {pc : Nat} {ls : Array Slot} {rest : List Value} {D : va_G} {ca : Nat → ClassId} {V V1 : va_W} {A : Nat → Prop} {H0 : Heap} {LA : List Nat}
theorem zg_end {w w' : va_W} {mc ms : Nat} {rv : Value} {st0 : List Value} {a9 : Array Value}
    (hrun : va_Run p l e R s m args below meth c H locs cells slots mc ms (F0 m pc ls st0) rest (zQw D (w.map Prod.fst) w' (some rv) a9) (zA (w.map Prod.fst)))
    (hO : zOn D V V1 w w' LA) (hP : va_P D vwCl V H) (hA : ∀ q ∈ LA, A q) (hS : va_S A H0 H locs)
    (kk : ∀ (H1 : Heap) (locs1 : List Loc), va_P D vwCl V1 H1 → va_S A H0 H1 locs1 → zKp LA H H1 → W p l e R s m args below meth c H1 locs1 (cells + mc) (slots + ms) Q (F0 m (pc + 3) ls (rv :: rest))) : W p l e R s m args below meth c H locs cells slots Q (F0 m pc ls st0) := by
  obtain ⟨-, h2, -, -, h5⟩ := hO
  intro T hT X
  obtain ⟨v, st₀, t, T', L, h0, X', hL, e1, -, ⟨hv, hp1, hz, hk⟩, st⟩ := hrun T hT X
  cases hv
  rw [h0] at hz hk
  have hk' : ∀ q : Nat, q < H.size → ¬ zA (w.map Prod.fst) q → T'.heap[q]? = H[q]? := fun q h1 h2 => by rw [e1]; exact hk q h1 h2
  have hkL : ∀ q : Nat, q < H.size → ¬ zA LA q → T'.heap[q]? = H[q]? := fun q q1 q2 => hk' q q1 (fun z => q2 (h2 q z))
  obtain ⟨t2, a1, b1⟩ := kk T'.heap (locs ++ L) (h5 H T'.heap hP (by rw [e1]; exact hp1) hk') ⟨Nat.le_trans hS.1 (by rw [e1]; exact hz), fun q q1 q2 => by rw [hkL q (Nat.lt_of_lt_of_le q1 hS.1) (fun z => q2 (hA q z))]; exact hS.2.1 q q1 q2, fun q hq => by
      rcases List.mem_append.mp hq with h | h
      · exact hS.2.2 q h
      · exact hA _ (h2 _ (hL q h))⟩ ⟨by rw [e1]; exact hz, hkL⟩ T' rfl X'
  exact ⟨t2, st t2 a1, b1⟩
theorem zgl {y : MethodName} {b : ByteArray} {nY : Nat} {hh : List (Nat × Nat × Nat × Nat)} {n index : Nat} {As : List Value} {rv : Value} {st0 : List Value} (S : CallFix p m c cc nL s args wAll own) (hO : zOneL l D ca y b nY hh LA V V1 As rv) (hl : Cond.methodLink own index y ∈ wAll) (hY : zYW y b nY hh n) (hstt : Cond.static y ∈ wAll)
    (hR : 9 ≤ R.frames ∧ 8 + (nY + 11) + 200 ≤ R.locals) (hK : zK D ca s) (hXA : zXA s) (hXt : zXt A s H) (hP : va_P D vwCl V H) (hA : ∀ q ∈ LA, A q) (hS : va_S A H0 H locs) (hn : As.length = n) (hsz : ls.size = nL) (hst : st0 = As.reverse ++ rest) (hroom : (rest.map fun v => v.category).sum ≤ 8) (hcs : cells + 1 ≤ R.cells ∧ slots + 6 ≤ R.slots) (hdg : decode cc pc = .ok (.invokestatic index, 3))
    (kk : ∀ (H1 : Heap) (locs1 : List Loc), va_P D vwCl V1 H1 → va_S A H0 H1 locs1 → zKp LA H H1 → W p l e R s m args below meth c H1 locs1 (cells + 1) (slots + 6) Q (F0 m (pc + 3) ls (rv :: rest))) : W p l e R s m args below meth c H locs cells slots Q (F0 m pc ls st0) := by
  obtain ⟨w, w', hc, hO⟩ := hO
  have hPc := hO.2.2.2.1 H hP
  rcases hc with ⟨fr, lo, hf, hlo, hM⟩ | ⟨fr, lo, X, k, tx, hf, hlo, hx, hM⟩
  · have hcw := vx_cwSW (R := R) (mc := 0) (ms := 0) (rm := { frames := fr, cells := 0, slots := 0, locals := lo }) (ws := Cond.codeWith y b nY (some .int) hh :: wAll) n S.2.2.2.2 (zcl_words hl hY hstt) rfl rfl rfl ⟨hY.2.2.1, hY.2.2.2.1, hY.2.2.2.2⟩ ⟨by show fr + 1 ≤ _; omega, by show 8 + (nY + 11) + lo ≤ _; omega⟩
    exact zg_end (vx_runSW (rest := rest) (g := F0 m pc ls st0) (H := H) (locs := locs) (cells := cells) (slots := slots) S hM hcw ⟨zblind, fun U hU hW => ⟨rfl, by rw [hU]; exact hPc, va_K.moved hW.alike hK⟩⟩ rfl hn hsz hst (lv_room hroom) hdg ⟨by omega, by omega⟩) hO hP hA hS (fun H1 locs1 a b c => W.widen (by omega) (by omega) (kk H1 locs1 a b c))
  · obtain ⟨hXw, ⟨sa, h4⟩, hNc⟩ := hXA X k tx hx
    have hsub : ∀ q, zA (w.map Prod.fst) q → A q := fun q h => hA q (hO.2.1 q h)
    have hcw := vx_cwSW (R := R) (mc := 1) (ms := 6) (rm := { frames := fr, cells := 1, slots := 6, locals := lo }) (ws := Cond.codeWith y b nY (some .int) hh :: wAll) n S.2.2.2.2 (zcl_words hl hY hstt) rfl rfl rfl ⟨hY.2.2.1, hY.2.2.2.1, hY.2.2.2.2⟩ ⟨by show fr + 1 ≤ _; omega, by show 8 + (nY + 11) + lo ≤ _; omega⟩
    exact zg_end (vx_runSW (rest := rest) (g := F0 m pc ls st0) (H := H) (locs := locs) (cells := cells) (slots := slots) S hM hcw ⟨zXblind2, fun U hU hW => ⟨rfl, ⟨by rw [hU]; exact hPc, va_K.moved hW.alike hK, hXw.warm hW, ⟨sa, vk_R.warm hW h4⟩, by rw [hU]; exact vx_Zq.moved hW.alike (hXt.1.narrow hsub), by rw [hU]; exact vx_Zq.moved hW.alike (hXt.2.narrow hsub)⟩, hNc.moved hW.alike⟩⟩ rfl hn hsz hst (lv_room hroom) hdg hcs) hO hP hA hS kk
theorem zg_words {y : MethodName} {b : ByteArray} {nY : Nat} {rt : Option FieldType} {n index : Nat} (hl : Cond.methodLink own index y ∈ wAll) (hY : zY y b nY rt n) (him : Cond.instanceMethod y ∈ wAll) (hse : Cond.selects y.cls y y ∈ wAll) : GoodIn wAll (wsV own index y.cls y (Cond.code y b nY rt :: wAll)) := zgood (fun w hw => by
    unfold wsV at hw
    rcases List.mem_append.mp hw with h | h
    · simp only [List.mem_cons, List.not_mem_nil, or_false] at h
      rcases h with h | h | h | h <;> rw [h]
      · exact hl
      · exact him
      · exact hse
      · exact hY.2.1
    · rcases List.mem_cons.mp h with h | h
      · rw [h]; exact hY.1
      · exact h)
theorem zgm {y : MethodName} {b : ByteArray} {nY : Nat} {rt : Option FieldType} {n index ci q : Nat} {r : vw_C} {As : List Value} {rv : Value} {st0 : List Value} (S : CallFix p m c cc nL s args wAll own) (hO : zOneM l D ca y b nY rt ci q LA V V1 As rv) (hl : Cond.methodLink own index y ∈ wAll) (hY : zY y b nY rt n) (him : Cond.instanceMethod y ∈ wAll) (hse : Cond.selects y.cls y y ∈ wAll)
    (hR : 9 ≤ R.frames ∧ 8 + (nY + 11) + 200 ≤ R.locals) (hK : zK D ca s) (hP : va_P D vwCl V H) (hA : ∀ q ∈ LA, A q) (hS : va_S A H0 H locs) (hc : vwCl[ci]? = some r) (hr : y.cls = r.1) (hn : As.length = n) (hsz : ls.size = nL) (hst : st0 = As.reverse ++ .ref q :: rest) (hroom : (rest.map fun v => v.category).sum ≤ 8) (hcs : cells ≤ R.cells ∧ slots ≤ R.slots) (hdg : decode cc pc = .ok (.invokevirtual index, 3))
    (kk : ∀ (H1 : Heap) (locs1 : List Loc), va_P D vwCl V1 H1 → va_S A H0 H1 locs1 → zKp LA H H1 → W p l e R s m args below meth c H1 locs1 cells slots Q (F0 m (pc + 3) ls (rv :: rest))) : W p l e R s m args below meth c H locs cells slots Q (F0 m pc ls st0) := by
  obtain ⟨fr, lo, w, w', q0, fs, hf, hlo, hM, hq, hO⟩ := hO
  have hPc := hO.2.2.2.1 H hP
  have hcw : CallW R s args own y.cls index y b nY rt (Cond.code y b nY rt :: wAll) { frames := fr, cells := 0, slots := 0, locals := lo } 0 0 n := cwV n S.2.2.2.2 (zg_words hl hY him hse) rfl rfl rfl ⟨rfl, hY.2.2.1, hY.2.2.2.1, hY.2.2.2.2⟩ ⟨by show fr + 1 ≤ _; omega, by show 8 + (nY + 11) + lo ≤ _; omega⟩
  have hrun := va_runV (rest := rest) (g := F0 m pc ls st0) (H := H) (locs := locs) (cells := cells) (slots := slots) (below := below) (e := e) (meth := meth) S hM hcw ⟨zblind, hr ▸ va_recv hK hPc hc hq, fun U hU hW => ⟨rfl, by rw [hU]; exact hPc, va_K.moved hW.alike hK⟩⟩ rfl hn hsz hst (lv_room hroom) hdg ⟨by simpa using hcs.1, by simpa using hcs.2⟩
  exact zg_end (a9 := #[]) hrun hO hP hA hS kk
theorem zgr {y : MethodName} {b : ByteArray} {nY : Nat} {rt : Option FieldType} {n index ci q : Nat} {r : vw_C} {As : List Value} {rv : Value} {st0 : List Value} (S : CallFix p m c cc nL s args wAll own) (hO : zOneR l D ca y b nY rt ci q V As rv) (hl : Cond.methodLink own index y ∈ wAll) (hY : zY y b nY rt n) (him : Cond.instanceMethod y ∈ wAll) (hse : Cond.selects y.cls y y ∈ wAll)
    (hR : 9 ≤ R.frames ∧ 8 + (nY + 11) + 200 ≤ R.locals) (hK : zK D ca s) (hP : va_P D vwCl V H) (hc : vwCl[ci]? = some r) (hr : y.cls = r.1) (hn : As.length = n) (hsz : ls.size = nL) (hst : st0 = As.reverse ++ .ref q :: rest) (hroom : (rest.map fun v => v.category).sum ≤ 8) (hcs : cells ≤ R.cells ∧ slots ≤ R.slots) (hdg : decode cc pc = .ok (.invokevirtual index, 3))
    (kk : W p l e R s m args below meth c H locs cells slots Q (F0 m (pc + 3) ls (rv :: rest))) : W p l e R s m args below meth c H locs cells slots Q (F0 m pc ls st0) := by
  obtain ⟨fr, lo, w, q0, fs, hf, hlo, hM, hq, hin⟩ := hO
  have hPc := hin H hP
  have hcw : CallW R s args own y.cls index y b nY rt (Cond.code y b nY rt :: wAll) { frames := fr, cells := 0, slots := 0, locals := lo } 0 0 n := cwV n S.2.2.2.2 (zg_words hl hY him hse) rfl rfl rfl ⟨rfl, hY.2.2.1, hY.2.2.2.1, hY.2.2.2.2⟩ ⟨by show fr + 1 ≤ _; omega, by show 8 + (nY + 11) + lo ≤ _; omega⟩
  have hrun := va_runV (rest := rest) (g := F0 m pc ls st0) (H := H) (locs := locs) (cells := cells) (slots := slots) (below := below) (e := e) (meth := meth) S hM hcw ⟨zblind, hr ▸ va_recv hK hPc hc hq, fun U hU hW => ⟨rfl, by rw [hU]; exact hPc, va_K.moved hW.alike hK⟩⟩ rfl hn hsz hst (lv_room hroom) hdg ⟨by simpa using hcs.1, by simpa using hcs.2⟩
  intro T hT X
  obtain ⟨v, st₀, t, T', L, h0, X', hL, e1, -, ⟨hv, hh⟩, st⟩ := hrun T hT X
  cases hv
  obtain ⟨t2, a1, b1⟩ := kk T' (by rw [e1, hh, h0]) (Stand.forget X' (fun q h => (hL q h).elim))
  exact ⟨t2, st t2 a1, b1⟩
end ZG
