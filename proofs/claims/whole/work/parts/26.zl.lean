/-! the law's own small methods: they call one of the class' methods, keep its answer, and tell what it threw -/
def zNcs (X : String) (U : State) : Prop := ∀ Y ∈ [xIA, xIS, xIO], Y ≠ X → va_Nc X Y U
theorem zNcs.moved {X : String} {u U : State} (hvm : u.vm.Alike U.vm) (h : zNcs X u) : zNcs X U := fun Y hY hn => va_Nc.moved hvm (h Y hY hn)
def zMl (l : Launch) (y : MethodName) (b : ByteArray) (nY : Nat) (hh : List (Nat × Nat × Nat × Nat)) (fr lo : Nat) (D : va_G) (ca : Nat → ClassId) (w w' : va_W) (As : List Value) (rv : Value) : Prop :=
  Met l y (Cond.codeWith y b nY (some .int) hh :: wAll) { frames := fr, cells := 0, slots := 0, locals := lo } (va_Pc As (fun U => va_P D vwCl w U.heap ∧ zK D ca U)) (zQw D (w.map Prod.fst) w' (some rv)) 0 0 (zA (w.map Prod.fst))
def zMlx (l : Launch) (y : MethodName) (b : ByteArray) (nY : Nat) (hh : List (Nat × Nat × Nat × Nat)) (fr lo : Nat) (D : va_G) (ca : Nat → ClassId) (w w' : va_W) (As : List Value) (rv : Value) (X : String) (k : Nat) (tx : String) : Prop :=
  Met l y (Cond.codeWith y b nY (some .int) hh :: wAll) { frames := fr, cells := 1, slots := 6, locals := lo } (va_Pc As (fun U => zXP D ca w X k tx U ∧ zNcs X U)) (zQw D (w.map Prod.fst) w' (some rv)) 1 6 (zA (w.map Prod.fst))
theorem zXblind2 {D : va_G} {ca : Nat → ClassId} {w : va_W} {As : List Value} {X : String} {k : Nat} {tx : String} : FrameBlind (va_Pc As (fun U => zXP D ca w X k tx U ∧ zNcs X U)) := fun a U g mk q => by
  obtain ⟨q0, q1, q2⟩ := q
  exact ⟨q0, (zXblind (As := As) a U g mk ⟨q0, q1⟩).2, zNcs.moved (u := U) (U := U.calling g mk a) (Vm.Alike.refl U.vm) q2⟩
theorem zMl_of {l : Launch} {D : va_G} {ca : Nat → ClassId} {own : String} {y : MethodName} {b : ByteArray} {nY : Nat} {hh : List (Nat × Nat × Nat × Nat)} {fr lo : Nat} {w w' : va_W} {As : List Value} {rv : Value} (hy : plainName y.cls = true) (ho : y.cls = own) (hlen : (lg_sl As).length ≤ nY)
    (body : ∀ (p : Program) (e : Env) (s : State) (m : MethodId) (args : Array Value) (below : List Frame) (meth : Method) (c : Code) (ls : Array Slot), CallFix p m c b nY s args wAll own → meth.sig.returnType = some .int → meth.locks = false → va_P D vwCl w s.heap → zK D ca s → lv_has ls nY (lv_args 0 As) → va_S (zA (w.map Prod.fst)) s.heap s.heap [] →
      W p l e { frames := fr, cells := 0, slots := 0, locals := lo } s m args below meth c s.heap [] 0 0 (MQ below (zQw D (w.map Prod.fst) w' (some rv)) args s 0 0 (zA (w.map Prod.fst))) (F0 m 0 ls [])) : zMl l y b nY hh fr lo D ca w w' As rv := by
  refine va_MetW (cc := b) (maxL := nY) (ret := some .int) (hh := hh) hy rfl ?_
  intro p e s m args below meth c s₁ B hml hv
  obtain ⟨rfl, hP, hK⟩ := hv
  have hl := lv_entry As (n := nY) hlen
  rw [lg_entry_eq]
  have hts := atoms_spec (ws := Cond.codeWith y b nY (some .int) hh :: wAll) B.pre
  exact body p e s m _ below meth c _ ⟨B.exec, B.bytes, hml, ho ▸ findClass_of_methodNamed B.named, fun w h => hts w (List.mem_cons_of_mem _ h)⟩ B.returns B.notSynchronized hP hK hl va_S.rf
theorem zMlx_of {l : Launch} {D : va_G} {ca : Nat → ClassId} {own : String} {y : MethodName} {b : ByteArray} {nY : Nat} {hh : List (Nat × Nat × Nat × Nat)} {fr lo : Nat} {w w' : va_W} {As : List Value} {rv : Value} {X : String} {k : Nat} {tx : String} (hy : plainName y.cls = true) (ho : y.cls = own) (hlen : (lg_sl As).length ≤ nY)
    (body : ∀ (p : Program) (e : Env) (s : State) (m : MethodId) (args : Array Value) (below : List Frame) (meth : Method) (c : Code) (ls : Array Slot), CallFix p m c b nY s args wAll own → meth.sig.returnType = some .int → meth.locks = false → c.exceptionTable.toList = tableOf hh → zXP D ca w X k tx s → zNcs X s → va_P D vwCl w s.heap → zK D ca s → lv_has ls nY (lv_args 0 As) → va_S (zA (w.map Prod.fst)) s.heap s.heap [] →
      W p l e { frames := fr, cells := 1, slots := 6, locals := lo } s m args below meth c s.heap [] 0 0 (MQ below (zQw D (w.map Prod.fst) w' (some rv)) args s 1 6 (zA (w.map Prod.fst))) (F0 m 0 ls [])) : zMlx l y b nY hh fr lo D ca w w' As rv X k tx := by
  refine va_MetW (cc := b) (maxL := nY) (ret := some .int) (hh := hh) hy rfl ?_
  intro p e s m args below meth c s₁ B hml hv
  obtain ⟨rfl, hX, hN⟩ := hv
  have hl := lv_entry As (n := nY) hlen
  rw [lg_entry_eq]
  have hts := atoms_spec (ws := Cond.codeWith y b nY (some .int) hh :: wAll) B.pre
  have ht := vx_table (x := y) B (hts _ List.mem_cons_self)
  exact body p e s m _ below meth c _ ⟨B.exec, B.bytes, hml, ho ▸ findClass_of_methodNamed B.named, fun w h => hts w (List.mem_cons_of_mem _ h)⟩ B.returns B.notSynchronized ht hX hN hX.1 hX.2.1 hl va_S.rf
section ZCX
variable {p : Program} {l : Launch} {e : Env} {R : Room} {s : State} {m : MethodId} {args : Array Value} {below : List Frame} {meth : Method} {c : Code} {H : Heap} {locs : List Loc} {cells slots : Nat} {Q : State → Prop}
variable {cc : ByteArray} {nL : Nat} {own : String} {pc : Nat} {ls : Array Slot} {rest : List Value} {D : va_G} {ca : Nat → ClassId} {w ws : va_W}
theorem zlx_i {l0 : List Nat} {w' : va_W} (hx : p.tables.exec = Jvm.exec) (hb : c.code = cc) (hr : meth.sig.returnType = some .int) (hlk : meth.locks = false) (hP : va_P D vwCl ws H) (hS : va_S (zA l0) s.heap H locs) {v rv : Int32} (hv : v = rv ∧ ws = w') (hdg : decode cc pc = .ok (.ireturn, 1)) : W p l e R s m args below meth c H locs 1 6 (MQ below (zQw D l0 w' (some (.int rv))) args s 1 6 (zA l0)) (F0 m pc ls [.int v]) := by
  obtain ⟨rfl, rfl⟩ := hv
  exact W.iret hx hb hr (fun t ht _ => ⟨rfl, by rw [ht]; exact hP, hS.F ht⟩) hS.2.2 hdg hlk
/-- a call whose callee throws, and what is caught is told by the row 'h' of this method's table -/
theorem zcx {y : MethodName} {b : ByteArray} {nY : Nat} {rt : Option FieldType} {fr lo n index ci q0 : Nat} {lw A : List Nat} {w0 w0' : va_W} {As : List Value} {X tx : String} {k q : Nat} {fs : List Value} {r : vw_C} {st0 : List Value} (S : CallFix p m c cc nL s args wAll own) (hM : zMx l y b nY rt fr lo D ca w0 w0' (.ref q :: As) X k tx) (hl : Cond.methodLink own index y ∈ wAll) (hY : zY y b nY rt n) (him : Cond.instanceMethod y ∈ wAll) (hse : Cond.selects y.cls y y ∈ wAll)
    (hR : fr + 1 ≤ R.frames ∧ 8 + (nY + 11) + lo ≤ R.locals) (hcs : 1 ≤ R.cells ∧ 6 ≤ R.slots) (hX : zXP D ca w X k tx s) (hNc : zNcs X s) (hw : w.map Prod.fst = A) (hP : va_P D vwCl ws s.heap) (hD : va_D (zA A) ws) (hS : va_S (zA A) s.heap s.heap []) (is : List Nat) (hC : is.map (fun i => ws[i]?) = w0.map some) (hf1 : w0.map Prod.fst = lw) (hf2 : w0'.map Prod.fst = lw) (hq : w0[q0]? = some (q, .inr (ci, fs))) (hc : vwCl[ci]? = some r) (hr : y.cls = r.1) (hn : As.length = n) (hsz : ls.size = nL) (hst : st0 = As.reverse ++ .ref q :: rest) (hroom : (rest.map fun v => v.category).sum ≤ 8) (hdg : decode cc pc = .ok (.invokevirtual index, 3))
    {hh1 hh2 : List (Nat × Nat × Nat × Nat)} {h : Nat × Nat × Nat × Nat} (ht : c.exceptionTable.toList = tableOf (hh1 ++ h :: hh2)) (hpass : ∀ z ∈ hh1, z.2.2.2 ≠ 0 ∧ ∃ nm ∈ [xIA, xIS, xIO], Cond.classLink own z.2.2.2 nm ∈ wAll ∧ nm ≠ X) (hcov : h.1 ≤ pc ∧ pc < h.2.1) (h0 : h.2.2.2 ≠ 0) (hlink : Cond.classLink own h.2.2.2 X ∈ wAll)
    (kk : ∀ (q9 : Nat) (H1 : Heap) (locs1 : List Loc), va_P D vwCl (zset ws is w0') H1 → va_S (zA A) s.heap H1 locs1 → W p l e R s m args below meth c H1 locs1 1 6 Q (F0 m h.2.2.1 ls [.ref q9])) : W p l e R s m args below meth c s.heap [] 0 0 Q (F0 m pc ls st0) := by
  subst hw
  have hf : w0'.map Prod.fst = w0.map Prod.fst := hf2.trans hf1.symm
  have hCf : is.filterMap (fun i => ws[i]?) = w0 := by
    have h1 : (is.map (fun i => ws[i]?)).filterMap id = (w0.map some).filterMap id := by rw [hC]
    rw [List.filterMap_map, List.filterMap_map] at h1
    simpa [Function.comp_def] using h1
  have hPc := hP.sub is hCf
  obtain ⟨-, hK, h3, ⟨sa, h4⟩, h5, h6⟩ := hX
  have hsub : ∀ q, zA (w0.map Prod.fst) q → zA (w.map Prod.fst) q := by
    intro q h
    obtain ⟨x, hx, rfl⟩ := List.mem_map.mp h
    rw [← hCf] at hx
    obtain ⟨i, -, hi⟩ := List.mem_filterMap.mp hx
    exact hD.2 i x hi
  have hcw : CallW R s args own y.cls index y b nY rt (Cond.code y b nY rt :: wAll) { frames := fr, cells := 1, slots := 6, locals := lo } 1 6 n := cwV n S.2.2.2.2 (zgood (fun w hw => by
    unfold wsV at hw
    rcases List.mem_append.mp hw with h | h
    · simp only [List.mem_cons, List.not_mem_nil, or_false] at h
      rcases h with h | h | h | h <;> rw [h]
      · exact hl
      · exact him
      · exact hse
      · exact hY.2.1
    · rcases List.mem_cons.mp h with h | h
      · rw [h]; exact hY.1
      · exact h)) rfl rfl rfl ⟨rfl, hY.2.2.1, hY.2.2.2.1, hY.2.2.2.2⟩ hR
  have hrun := vx_runV (rest := rest) (g := F0 m pc ls st0) (H := s.heap) (locs := []) (cells := 0) (slots := 0) (below := below) (e := e) (meth := meth) S hM hcw ⟨zXblind, hr ▸ va_recv hK hPc hc hq, fun U hU hW => ⟨rfl, by rw [hU]; exact hPc, va_K.moved hW.alike hK, h3.warm hW, ⟨sa, vk_R.warm hW h4⟩, by rw [hU]; exact vx_Zq.moved hW.alike (h5.narrow hsub), by rw [hU]; exact vx_Zq.moved hW.alike (h6.narrow hsub)⟩⟩ rfl hn hsz hst (lv_room hroom) hdg ⟨by simpa using hcs.1, by simpa using hcs.2⟩
  intro T hT X0
  rcases hrun T hT X0 with ⟨v, st₀, t, T', L, g0, X', hL, e1, -, hv, st⟩ | ⟨q9, st₀, t, T', L, E, ce, g0, X', hL, e1, e2, ⟨rfl, hp1, hz, hkk⟩, hce, hcv, hcl, st⟩
  · exact False.elim hv
  · rw [g0] at hz hkk
    have hk' : ∀ q : Nat, q < s.heap.size → ¬ zA (w0.map Prod.fst) q → T'.heap[q]? = s.heap[q]? := fun q h1 h2 => by rw [e1]; exact hkk q h1 h2
    have hcatch : vx_W p l e R s m args below meth c T'.heap ([] ++ L) (0 + 1) (0 + 6) Q (F0 m pc ls rest) q9 := by
      refine vx_catch (own := own) (name := E) (E := E) (ce := ce) S.2.2.2.1 (tableOf hh1) ⟨h.1, h.2.1, h.2.2.1, h.2.2.2⟩ (tableOf hh2) (by rw [ht]; simp [tableOf]) (fun z hz => ?_) ?_ h0 (S.2.2.2.2 _ hlink) (va_Nw.use rfl h3.1) (by rw [e1]; exact hce) hcv hcl ?_
      · obtain ⟨z', hz', rfl⟩ := List.mem_map.mp hz
        obtain ⟨c1, nm, c2, c3, c4⟩ := hpass z' hz'
        exact Or.inr ⟨c1, nm, S.2.2.2.2 _ c3, hNc nm c2 c4⟩
      · simp [covers, hcov.1, hcov.2]
      · exact kk q9 T'.heap ([] ++ L) (zback hP hD hC hf hk' (by rw [e1]; exact hp1)) ⟨Nat.le_trans hS.1 (by rw [e1]; exact hz), fun q h1 h2 => by rw [hk' q h1 (fun z => h2 (hsub q z))], fun q hq => by
          rcases List.mem_append.mp hq with h | h
          · exact hS.2.2 q h
          · exact hsub _ (hL q h)⟩
    obtain ⟨t2, a1, b1⟩ := hcatch T' rfl X'
    exact ⟨t2, st.trans a1, b1⟩
end ZCX
