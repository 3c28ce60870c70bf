/-! what makes new cells: arrays, objects, constructors -/
def zPk (U : State) : Prop := va_Nw (.methodLinkNest RX6 11 yX2_init "SeenPages") U ∧ va_Nw (.methodLinkNest RX6 25 yX5_init "SeenPages") U ∧ va_Nw (.methodLinkNest RX2 27 yX4_init "SeenPages") U ∧ va_Nw (.methodLinkNest RX1 17 yX2_init "SeenPages") U ∧ va_AO "SeenPages$State" U
theorem zPk.warm {s U : State} (hW : s.WarmedH U.vm) (h : zPk s) : zPk U := ⟨va_Nw.warmM hW h.1, va_Nw.warmM hW h.2.1, va_Nw.warmM hW h.2.2.1, va_Nw.warmM hW h.2.2.2.1, va_AO.moved hW.alike h.2.2.2.2⟩
theorem zPk.same {u U : State} (hv : u.vm = U.vm) (h : zPk u) : zPk U := ⟨va_Nw.same rfl hv h.1, va_Nw.same rfl hv h.2.1, va_Nw.same rfl hv h.2.2.1, va_Nw.same rfl hv h.2.2.2.1, va_AO.moved (by rw [hv]; exact Vm.Alike.refl U.vm) h.2.2.2.2⟩
def zAn (q n : Nat) : Nat → Prop := fun x => x = q ∨ n ≤ x
/-- a constructor without arguments: the object 'q' stands, its other cells are new; their addresses are told by 'a' -/
def zMn (l : Launch) (y : MethodName) (b : ByteArray) (nY fr cN sN lo : Nat) (D : va_G) (ca : Nat → ClassId) (N q k0 : Nat) (w0 : va_W) (W' : (Nat → Nat) → va_W) : Prop :=
  Met l y (Cond.code y b nY none :: wAll) { frames := fr, cells := cN, slots := sN, locals := lo } (va_Pc [.ref q] (fun U => N ≤ U.heap.size ∧ va_P D vwCl w0 U.heap ∧ zK D ca U ∧ zPk U)) (fun _ st o t => o = .returned none ∧ ∃ a : Nat → Nat, a k0 = q ∧ va_D (zAn q st.heap.size) (W' a) ∧ va_P D vwCl (W' a) t.heap ∧ va_F (zAn q st.heap.size) st t) cN sN (fun x => N ≤ x)
theorem zNblind {D : va_G} {ca : Nat → ClassId} {w : va_W} {As : List Value} {N : Nat} : FrameBlind (va_Pc As (fun U => N ≤ U.heap.size ∧ va_P D vwCl w U.heap ∧ zK D ca U ∧ zPk U)) := fun a U g mk q => by
  obtain ⟨q0, q1, q2, q3, q4⟩ := q
  exact ⟨q0, q1, q2, va_K.moved (u := U) (U := U.calling g mk a) (Vm.Alike.refl U.vm) q3, zPk.same (u := U) rfl q4⟩
theorem zMn_of {l : Launch} {D : va_G} {ca : Nat → ClassId} {own : String} {y : MethodName} {b : ByteArray} {nY fr cN sN lo N q k0 : Nat} {w0 : va_W} {W' : (Nat → Nat) → va_W} (hq : N ≤ q) (hw : w0.map Prod.fst = [q]) (hy : plainName y.cls = true) (ho : y.cls = own) (hlen : 1 ≤ nY)
    (body : ∀ (p : Program) (e : Env) (s : State) (m : MethodId) (args : Array Value) (below : List Frame) (meth : Method) (c : Code) (ls : Array Slot), CallFix p m c b nY s args wAll own → meth.sig.returnType = none → meth.locks = false → meth.name = y.name → va_P D vwCl w0 s.heap → zK D ca s → zPk s → N ≤ s.heap.size → lv_has ls nY [(0, .ref q)] → va_D (zAn q s.heap.size) w0 → va_S (zAn q s.heap.size) s.heap s.heap [] → (∀ x, s.heap.size ≤ x → zAn q s.heap.size x) →
      W p l e { frames := fr, cells := cN, slots := sN, locals := lo } s m args below meth c s.heap [] 0 0 (MQ below (fun _ st o t => o = .returned none ∧ ∃ a : Nat → Nat, a k0 = q ∧ va_D (zAn q st.heap.size) (W' a) ∧ va_P D vwCl (W' a) t.heap ∧ va_F (zAn q st.heap.size) st t) args s cN sN (fun x => N ≤ x)) (F0 m 0 ls [])) : zMn l y b nY fr cN sN lo D ca N q k0 w0 W' := by
  refine Met.ofW (cc := b) (maxL := nY) (ret := none) hy rfl ?_
  intro p e s m args below meth c s₁ B hml hv
  obtain ⟨rfl, hN, hP, hK, hk⟩ := hv
  have hl := lv_entry [.ref q] (n := nY) hlen
  rw [lg_entry_eq]
  have hts := atoms_spec (ws := Cond.code y b nY none :: wAll) B.pre
  exact body p e s m _ below meth c _ ⟨B.exec, B.bytes, hml, ho ▸ findClass_of_methodNamed B.named, fun w h => hts w (List.mem_cons_of_mem _ h)⟩ B.returns B.notSynchronized (name_of_methodNamed B.named B.method).1 hP hK hk hN hl (zDto (l := [q]) (List.nodup_cons.mpr ⟨List.not_mem_nil, List.nodup_nil⟩) (fun x hx => Or.inl (List.mem_singleton.mp hx)) hw) va_S.rf (fun x hx => Or.inr hx)
section ZN
variable {p : Program} {l : Launch} {e : Env} {R : Room} {s : State} {m : MethodId} {args : Array Value} {below : List Frame} {meth : Method} {c : Code} {H : Heap} {locs : List Loc} {cells slots : Nat} {Q : State → Prop}
variable {cc : ByteArray} {nL : Nat} {own : String} {pc : Nat} {ls : Array Slot} {rest : List Value} {D : va_G} {ca : Nat → ClassId} {ws : va_W} {A : Nat → Prop} {H0 : Heap}
theorem zn_ret {q N k0 cN sN : Nat} {W' : (Nat → Nat) → va_W} (hx : p.tables.exec = Jvm.exec) (hb : c.code = cc) (hr : meth.sig.returnType = none) (hlk : meth.locks = false) (hP : va_P D vwCl ws H) (hD : va_D (zAn q s.heap.size) ws) (hS : va_S (zAn q s.heap.size) s.heap H locs) (hq : N ≤ q) (hN : N ≤ s.heap.size) (a : Nat → Nat) (h0 : a k0 = q) (hw : ws = W' a) (hdg : decode cc pc = .ok (.return_, 1)) :
    W p l e R s m args below meth c H locs cN sN (MQ below (fun _ st o t => o = .returned none ∧ ∃ a : Nat → Nat, a k0 = q ∧ va_D (zAn q st.heap.size) (W' a) ∧ va_P D vwCl (W' a) t.heap ∧ va_F (zAn q st.heap.size) st t) args s cN sN (fun x => N ≤ x)) (F0 m pc ls []) := by
  subst hw
  exact W.vret hx hb hr (fun t ht _ => ⟨rfl, a, h0, hD, by rw [ht]; exact hP, hS.F ht⟩) (fun z hz => (hS.2.2 z hz).elim (fun h => by rw [h]; exact hq) (fun h => Nat.le_trans hN h)) hdg hlk
theorem z_newi (S : CallFix p m c cc nL s args wAll own) (hK : zK D ca s) (hP : va_P D vwCl ws H) (hD : va_D A ws) (hS : va_S A H0 H locs) (hA : ∀ q, H0.size ≤ q → A q) {n : Nat} (hn : n * 4 ≤ 536870912) (hcells : cells + 1 ≤ R.cells) (hslots : slots + n ≤ R.slots) (hdg : decode cc pc = .ok (.newarray .int, 2))
    (kk : ∀ (q : Nat) (H1 : Heap), va_P D vwCl (ws ++ [(q, .inl (ca 0, n, .inl (fun _ => 0)))]) H1 → va_D A (ws ++ [(q, .inl (ca 0, n, .inl (fun _ => 0)))]) → va_S A H0 H1 locs → W p l e R s m args below meth c H1 locs (cells + 1) (slots + n) Q (F0 m (pc + 2) ls (.ref q :: rest))) : W p l e R s m args below meth c H locs cells slots Q (F0 m pc ls (.int (nI n) :: rest)) := by
  have hn2 : n < 2 ^ 31 := by omega
  refine va_newa (atype := .int) (a0 := (n, .inl (fun _ => 0))) (N' := n) (ty := .int) S.1 S.2.1 (S.2.2.2.2 _ ac_int) rfl hK hP hD hS hA (fun cA => rfl) (nI_pos hn2) (nI_clamp hn2) hn hcells hslots hdg (fun q cA H1 hK1 hP1 hD1 hS1 => ?_)
  have h1 : s.vm.findClass ("[" ++ FieldType.int.toString) = some cA := (hK1.2 4 (cA, .int) rfl).2
  have h2 : s.vm.findClass ("[" ++ FieldType.int.toString) = some (ca 0) := (hK.2 0 (ca 0, .int) rfl).2
  obtain rfl : ca 0 = cA := Option.some.inj (h2.symm.trans h1)
  exact kk q H1 hP1 hD1 hS1
theorem z_newc (S : CallFix p m c cc nL s args wAll own) (hK : zK D ca s) (hP : va_P D vwCl ws H) (hD : va_D A ws) (hS : va_S A H0 H locs) (hA : ∀ q, H0.size ≤ q → A q) {n : Nat} (hn : n * 2 ≤ 536870912) (hcells : cells + 1 ≤ R.cells) (hslots : slots + n ≤ R.slots) (hdg : decode cc pc = .ok (.newarray .char, 2))
    (kk : ∀ (q : Nat) (H1 : Heap), va_P D vwCl (ws ++ [(q, .inl (ca 1, n, .inl (fun _ => 0)))]) H1 → va_D A (ws ++ [(q, .inl (ca 1, n, .inl (fun _ => 0)))]) → va_S A H0 H1 locs → W p l e R s m args below meth c H1 locs (cells + 1) (slots + n) Q (F0 m (pc + 2) ls (.ref q :: rest))) : W p l e R s m args below meth c H locs cells slots Q (F0 m pc ls (.int (nI n) :: rest)) := by
  have hn2 : n < 2 ^ 31 := by omega
  refine va_newa (atype := .char) (a0 := (n, .inl (fun _ => 0))) (N' := n) (ty := .char) S.1 S.2.1 (S.2.2.2.2 _ ac_char) rfl hK hP hD hS hA (fun cA => rfl) (nI_pos hn2) (nI_clamp hn2) hn hcells hslots hdg (fun q cA H1 hK1 hP1 hD1 hS1 => ?_)
  have h1 : s.vm.findClass ("[" ++ FieldType.char.toString) = some cA := (hK1.2 4 (cA, .char) rfl).2
  have h2 : s.vm.findClass ("[" ++ FieldType.char.toString) = some (ca 1) := (hK.2 1 (ca 1, .char) rfl).2
  obtain rfl : ca 1 = cA := Option.some.inj (h2.symm.trans h1)
  exact kk q H1 hP1 hD1 hS1
theorem z_newS (S : CallFix p m c cc nL s args wAll own) (hK : zK D ca s) (hk : zPk s) (hP : va_P D vwCl ws H) (hD : va_D A ws) (hS : va_S A H0 H locs) (hA : ∀ q, H0.size ≤ q → A q) {n index : Nat} (hn : n * 4 ≤ 536870912) (hcells : cells + 1 ≤ R.cells) (hslots : slots + n ≤ R.slots) (hcl : Cond.classLink own index "SeenPages$State" ∈ wAll) (hdg : decode cc pc = .ok (.anewarray index, 3))
    (kk : ∀ (q : Nat) (H1 : Heap), va_P D vwCl (ws ++ [(q, .inl (ca 3, n, .inr (.inr (.inr (.inr (fun _ => none))))))]) H1 → va_D A (ws ++ [(q, .inl (ca 3, n, .inr (.inr (.inr (.inr (fun _ => none))))))]) → va_S A H0 H1 locs → W p l e R s m args below meth c H1 locs (cells + 1) (slots + n) Q (F0 m (pc + 3) ls (.ref q :: rest))) : W p l e R s m args below meth c H locs cells slots Q (F0 m pc ls (.int (nI n) :: rest)) := by
  have hn2 : n < 2 ^ 31 := by omega
  refine va_newq (N' := n) S.1 S.2.1 S.2.2.2.1 (S.2.2.2.2 _ hcl) hk.2.2.2.2 hK hP hD hS hA (nI_pos hn2) (nI_clamp hn2) hn hcells hslots hdg (fun q cA H1 hK1 hP1 hD1 hS1 => ?_)
  obtain ⟨k1, c1, -, -, -, h1⟩ := (hK1.2 4 (cA, .object "SeenPages$State") rfl).2
  obtain ⟨k2, c2, -, -, -, h2⟩ := (hK.2 3 (ca 3, .object "SeenPages$State") rfl).2
  obtain rfl : ca 3 = cA := Option.some.inj (h2.symm.trans h1)
  exact kk q H1 hP1 hD1 hS1
theorem z_new {C : String} {T : u_T} {N ci index : Nat} (S : CallFix p m c cc nL s args wAll own) (hin : ∀ w ∈ u_ws C T N, w ∈ wAll) (ty : Nat → FieldType) (hty : ∀ k, k < N → parseFieldDescriptor (T k).2.2.1 = some (ty k)) (hcl : Cond.classLink own index C ∈ wAll) (hit : Cond.instantiable C N ∈ wAll) (hini : Cond.initialized C ∈ wAll) (hK : zK D ca s) (hP : va_P D vwCl ws H) (hD : va_D A ws) (hS : va_S A H0 H locs) (hA : ∀ q, H0.size ≤ q → A q) (hc : vwCl[ci]? = some (C, T, N)) {fs : List Value} (hfs : ∀ j, j < N → defaultValue (ty j) = vp_V fs j) (hcells : cells + 1 ≤ R.cells) (hslots : slots + N ≤ R.slots) (hdg : decode cc pc = .ok (.new index, 3))
    (kk : ∀ (q : Nat) (H1 : Heap), va_P D vwCl (ws ++ [(q, .inr (ci, fs))]) H1 → va_D A (ws ++ [(q, .inr (ci, fs))]) → va_S A H0 H1 locs → W p l e R s m args below meth c H1 locs (cells + 1) (slots + N) Q (F0 m (pc + 3) ls (.ref q :: rest))) : W p l e R s m args below meth c H locs cells slots Q (F0 m pc ls rest) :=
  va_new (ci := ci) (fs := fs) S.1 S.2.1 S.2.2.2.2 hin ty hty S.2.2.2.1 (S.2.2.2.2 _ hcl) (S.2.2.2.2 _ hit) (S.2.2.2.2 _ hini) hK hP hD hS hA hc hfs hcells hslots hdg kk
theorem zNe {q0 n j : Nat} {e0 e : va_E} {q : Nat} (hD : va_D (zAn q0 n) ws) (h0 : ws[0]? = some (q0, e0)) (hj : ws[j]? = some (q, e)) (hne : 0 < j) : n ≤ q := by
  rcases hD.2 j _ hj with h | h
  · have := hD.1 0 j _ _ h0 hj h.symm
    omega
  · exact h
theorem zcn_end {q k0 N cN sN i : Nat} {e0 : va_E} {W' : (Nat → Nat) → va_W} {st0 : List Value} {a9 : Array Value}
    (hrun : va_Run p l e R s m args below meth c H locs cells slots cN sN (F0 m pc ls st0) rest ((fun (_ : Array Value) (st : State) (o : Outcome) (t : State) => o = .returned none ∧ ∃ a : Nat → Nat, a k0 = q ∧ va_D (zAn q st.heap.size) (W' a) ∧ va_P D vwCl (W' a) t.heap ∧ va_F (zAn q st.heap.size) st t) a9) (fun x => N ≤ x))
    (hP : va_P D vwCl ws H) (hD : va_D A ws) (hS : va_S A H0 H locs) (hA : ∀ x, H0.size ≤ x → A x) (hNA : ∀ x, N ≤ x → A x) (hi : ws[i]? = some (q, e0))
    (kk : ∀ (a : Nat → Nat) (H1 : Heap) (locs1 : List Loc), a k0 = q → va_P D vwCl (ws.eraseIdx i ++ W' a) H1 → va_D A (ws.eraseIdx i ++ W' a) → va_S A H0 H1 locs1 → W p l e R s m args below meth c H1 locs1 (cells + cN) (slots + sN) Q (F0 m (pc + 3) ls rest)) : W p l e R s m args below meth c H locs cells slots Q (F0 m pc ls st0) := by
  intro T hT X
  obtain ⟨v, st₀, t, T', L, h0, X', hL, e1, -, ⟨hv, a, ha, hD', hP', hz, hk⟩, st⟩ := hrun T hT X
  cases hv
  rw [h0] at hz hk hD'
  have hAq : A q := hD.2 i _ hi
  have hget : ∀ (j : Nat) (x : Nat × va_E), (ws.eraseIdx i)[j]? = some x → ∃ j', j' ≠ i ∧ ws[j']? = some x ∧ (j = if j' < i then j' else j' - 1) := by
    intro j x hx
    rw [List.getElem?_eraseIdx] at hx
    split at hx
    · rename_i h; exact ⟨j, by omega, hx, by rw [if_pos h]⟩
    · rename_i h; exact ⟨j + 1, by omega, hx, by rw [if_neg (by omega)]; omega⟩
  have hneq : ∀ (j : Nat) (x : Nat × va_E), j ≠ i → ws[j]? = some x → x.1 < H.size ∧ x.1 ≠ q := fun j x hj hx => ⟨(hP j x hx).lt, fun h => hj (hD.1 j i x _ hx hi h)⟩
  obtain ⟨t2, a1, b1⟩ := kk a T'.heap (locs ++ L) ha (by
    intro j x hx
    by_cases hl : j < (ws.eraseIdx i).length
    · rw [List.getElem?_append_left hl] at hx
      obtain ⟨j', h1, h2, -⟩ := hget j x hx
      obtain ⟨h3, h4⟩ := hneq j' x h1 h2
      exact (hP j' x h2).kept (by rw [e1]; exact hk _ h3 (fun h => h.elim h4 (fun h => absurd h3 (Nat.not_lt.mpr h))))
    · rw [List.getElem?_append_right (by omega)] at hx
      rw [e1]; exact hP' _ x hx) (by
    refine ⟨fun j k x y hj hk9 hxy => ?_, fun j x hj => ?_⟩
    · by_cases hl : j < (ws.eraseIdx i).length
      · rw [List.getElem?_append_left hl] at hj
        obtain ⟨j', h1, h2, h2'⟩ := hget j x hj
        obtain ⟨h3, h4⟩ := hneq j' x h1 h2
        by_cases hl2 : k < (ws.eraseIdx i).length
        · rw [List.getElem?_append_left hl2] at hk9
          obtain ⟨k', h5, h6, h6'⟩ := hget k y hk9
          have := hD.1 j' k' x y h2 h6 hxy
          subst this
          rw [h2', h6']
        · rw [List.getElem?_append_right (by omega)] at hk9
          rcases hD'.2 _ _ hk9 with h | h
          · exact absurd (hxy.trans h) h4
          · rw [← hxy] at h; omega
      · rw [List.getElem?_append_right (by omega)] at hj
        by_cases hl2 : k < (ws.eraseIdx i).length
        · rw [List.getElem?_append_left hl2] at hk9
          obtain ⟨k', h5, h6, h6'⟩ := hget k y hk9
          obtain ⟨h3, h4⟩ := hneq k' y h5 h6
          rcases hD'.2 _ _ hj with h | h
          · exact absurd (hxy.symm.trans h) h4
          · rw [hxy] at h; omega
        · rw [List.getElem?_append_right (by omega)] at hk9
          have := hD'.1 _ _ x y hj hk9 hxy
          omega
    · by_cases hl : j < (ws.eraseIdx i).length
      · rw [List.getElem?_append_left hl] at hj
        obtain ⟨j', h1, h2, -⟩ := hget j x hj
        exact hD.2 j' x h2
      · rw [List.getElem?_append_right (by omega)] at hj
        rcases hD'.2 _ _ hj with h | h
        · rw [h]; exact hAq
        · exact hA _ (Nat.le_trans hS.1 h)) ⟨Nat.le_trans hS.1 (by rw [e1]; exact hz), fun x h1 h2 => by
        rw [e1, hk x (Nat.lt_of_lt_of_le h1 hS.1) (fun h => h.elim (fun h => h2 (by rw [h]; exact hAq)) (fun h => absurd (Nat.lt_of_lt_of_le h1 hS.1) (Nat.not_lt.mpr h)))]
        exact hS.2.1 x h1 h2, fun z hz9 => by
      rcases List.mem_append.mp hz9 with h | h
      · exact hS.2.2 z h
      · exact hNA _ (hL z h)⟩ T' rfl X'
  exact ⟨t2, st t2 a1, b1⟩
theorem zcn {y : MethodName} {b : ByteArray} {nY fr cN sN lo N q k0 index i : Nat} {e0 : va_E} {W' : (Nat → Nat) → va_W} (S : CallFix p m c cc nL s args wAll own) (hM : zMn l y b nY fr cN sN lo D ca N q k0 [(q, e0)] W') (hl : Cond.methodLink own index y ∈ wAll) (hY : zY y b nY none 0) (him : Cond.instanceMethod y ∈ wAll) (hnm : y.name = "<init>")
    (hR : fr + 1 ≤ R.frames ∧ 8 + (nY + 11) + lo ≤ R.locals) (hK : zK D ca s) (hk : zPk s) (hP : va_P D vwCl ws H) (hD : va_D A ws) (hS : va_S A H0 H locs) (hA : ∀ x, H0.size ≤ x → A x) (hN : N ≤ H.size) (hNA : ∀ x, N ≤ x → A x) (hi : ws[i]? = some (q, e0)) (hsz : ls.size = nL) (hroom : (rest.map fun v => v.category).sum ≤ 8) (hcs : cells + cN ≤ R.cells ∧ slots + sN ≤ R.slots) (hdg : decode cc pc = .ok (.invokespecial index, 3))
    (kk : ∀ (a : Nat → Nat) (H1 : Heap) (locs1 : List Loc), a k0 = q → va_P D vwCl (ws.eraseIdx i ++ W' a) H1 → va_D A (ws.eraseIdx i ++ W' a) → va_S A H0 H1 locs1 → W p l e R s m args below meth c H1 locs1 (cells + cN) (slots + sN) Q (F0 m (pc + 3) ls rest)) : W p l e R s m args below meth c H locs cells slots Q (F0 m pc ls (.ref q :: rest)) := by
  have hPc : va_P D vwCl [(q, e0)] H := hP.sub [i] (by simp [hi])
  have hcw := cwI (R := R) (ws := Cond.code y b nY none :: wAll) (rm := { frames := fr, cells := cN, slots := sN, locals := lo }) (mc := cN) (ms := sN) 0 S.2.2.2.2 (zgood (fun w hw => by
    rcases List.mem_cons.mp hw with h | h
    · rw [h]; exact hY.1
    · exact h)) rfl rfl rfl (S.2.2.2.2 _ hY.2.1) (S.2.2.2.2 _ hl) (S.2.2.2.2 _ him) hnm ⟨hY.2.2.1, hY.2.2.2.1, hY.2.2.2.2⟩ hR
  exact zcn_end (a9 := #[.ref q]) (va_runI (As := []) (rest := rest) (g := F0 m pc ls (.ref q :: rest)) S hM hcw ⟨zNblind, fun U hU hW => ⟨rfl, by rw [hU]; exact hN, by rw [hU]; exact hPc, va_K.moved hW.alike hK, hk.warm hW⟩⟩ rfl rfl hsz rfl (lv_room hroom) hdg hcs) hP hD hS hA hNA hi kk
theorem zcnN {y : MethodName} {b : ByteArray} {host : String} {nY fr cN sN lo N q k0 index i : Nat} {e0 : va_E} {W' : (Nat → Nat) → va_W} (S : CallFix p m c cc nL s args wAll own) (hM : zMn l y b nY fr cN sN lo D ca N q k0 [(q, e0)] W') (hl : va_Nw (.methodLinkNest own index y host) s) (hY : zY y b nY none 0) (him : Cond.instanceMethod y ∈ wAll) (hnm : y.name = "<init>")
    (hR : fr + 1 ≤ R.frames ∧ 8 + (nY + 11) + lo ≤ R.locals) (hK : zK D ca s) (hk : zPk s) (hP : va_P D vwCl ws H) (hD : va_D A ws) (hS : va_S A H0 H locs) (hA : ∀ x, H0.size ≤ x → A x) (hN : N ≤ H.size) (hNA : ∀ x, N ≤ x → A x) (hi : ws[i]? = some (q, e0)) (hsz : ls.size = nL) (hroom : (rest.map fun v => v.category).sum ≤ 8) (hcs : cells + cN ≤ R.cells ∧ slots + sN ≤ R.slots) (hdg : decode cc pc = .ok (.invokespecial index, 3))
    (kk : ∀ (a : Nat → Nat) (H1 : Heap) (locs1 : List Loc), a k0 = q → va_P D vwCl (ws.eraseIdx i ++ W' a) H1 → va_D A (ws.eraseIdx i ++ W' a) → va_S A H0 H1 locs1 → W p l e R s m args below meth c H1 locs1 (cells + cN) (slots + sN) Q (F0 m (pc + 3) ls rest)) : W p l e R s m args below meth c H locs cells slots Q (F0 m pc ls (.ref q :: rest)) := by
  have hPc : va_P D vwCl [(q, e0)] H := hP.sub [i] (by simp [hi])
  have hcw := va_cnB (R := R) (ws := Cond.code y b nY none :: wAll) (rm := { frames := fr, cells := cN, slots := sN, locals := lo }) (mc := cN) (ms := sN) 0 S.2.2.2.2 (zgood (fun w hw => by
    rcases List.mem_cons.mp hw with h | h
    · rw [h]; exact hY.1
    · exact h)) rfl rfl rfl hl (S.2.2.2.2 _ hY.2.1) ⟨hY.2.2.1, hY.2.2.2.1, hY.2.2.2.2⟩ hR
  exact zcn_end (a9 := #[.ref q]) (va_runIN (As := []) (rest := rest) (g := F0 m pc ls (.ref q :: rest)) S hM ⟨hcw, hnm, S.2.2.2.2 _ him⟩ ⟨zNblind, fun U hU hW => ⟨rfl, by rw [hU]; exact hN, by rw [hU]; exact hPc, va_K.moved hW.alike hK, hk.warm hW⟩⟩ rfl rfl hsz rfl (lv_room hroom) hdg hcs) hP hD hS hA hNA hi kk
theorem z_objInit {index q : Nat} (S : CallFix p m c cc nL s args wAll own) (hl : Cond.methodLink own index objectInit ∈ wAll) (hsz : ls.size = nL) (hR : 1 ≤ R.frames ∧ (rest.map fun v => v.category).sum + 12 ≤ R.locals) (hdg : decode cc pc = .ok (.invokespecial index, 3))
    (kk : W p l e R s m args below meth c H locs cells slots Q (F0 m (pc + 3) ls rest)) : W p l e R s m args below meth c H locs cells slots Q (F0 m pc ls (.ref q :: rest)) :=
  W.objInit S.1 S.2.1 S.2.2.2.1 (S.2.2.2.2 _ hl) (S.2.2.2.2 _ im_objectInit) (S.2.2.2.2 _ co_objectInit) rfl (hsz.trans S.2.2.1.symm) rfl hdg hR.1 (by simpa [F0] using hR.2) kk
theorem z_alen {a n : Nat} {f : Nat → Int32} (S : CallFix p m c cc nL s args wAll own) (hK : zK D ca s) (hP : va_P D vwCl ws H) (q0 : Nat) (he : ws[q0]? = some (a, .inl (ca 0, n, .inl f))) (hdg : decode cc pc = .ok (.arraylength, 1))
    (kk : W p l e R s m args below meth c H locs cells slots Q (F0 m (pc + 1) ls (.int (nI n) :: rest))) : W p l e R s m args below meth c H locs cells slots Q (F0 m pc ls (.ref a :: rest)) :=
  va_alen S.1 S.2.1 hK hP q0 0 he rfl rfl hdg kk
theorem z_astq {a n j : Nat} {f : Nat → Option Nat} {v qk : Nat} {vs : List Value} (S : CallFix p m c cc nL s args wAll own) (hK : zK D ca s) (hP : va_P D vwCl ws H) (hD : va_D A ws) (hS : va_S A H0 H locs) (q0 : Nat) (he : ws[q0]? = some (a, .inl (ca 3, n, .inr (.inr (.inr (.inr f)))))) (hj : j < n) (hn : n < 2 ^ 31) (hv : ws[qk]? = some (v, .inr (2, vs))) (hdg : decode cc pc = .ok (.aastore, 1))
    (kk : ∀ (H1 : Heap) (locs1 : List Loc), va_P D vwCl (ws.set q0 (a, .inl (ca 3, n, .inr (.inr (.inr (.inr (va_up f j (some v)))))))) H1 → va_D A (ws.set q0 (a, .inl (ca 3, n, .inr (.inr (.inr (.inr (va_up f j (some v)))))))) → va_S A H0 H1 locs1 → W p l e R s m args below meth c H1 locs1 cells slots Q (F0 m (pc + 1) ls rest)) : W p l e R s m args below meth c H locs cells slots Q (F0 m pc ls (.ref v :: .int (nI j) :: .ref a :: rest)) := by
  refine va_astq S.1 S.2.1 hK hP hD hS q0 3 qk 2 he rfl hv rfl (vp_in_nI hj hn) hdg (fun H1 locs1 h1 h2 h3 => ?_)
  rw [nI_clamp (by omega)] at h1 h2
  exact kk H1 locs1 h1 h2 h3
end ZN
def zFil (k : Nat) (v : Int32) (f : Nat → Int32) : Nat → Int32 := fun j => if j < k then v else f j
theorem zFil_0 (v : Int32) (f : Nat → Int32) : zFil 0 v f = f := funext fun j => if_neg (Nat.not_lt_zero j)
theorem zFil_s (k : Nat) (v : Int32) (f : Nat → Int32) : upd (zFil k v f) k v = zFil (k + 1) v f := by
  funext j
  unfold upd zFil
  by_cases h : j = k
  · rw [if_pos h, if_pos (by omega)]
  · rw [if_neg h]
    by_cases h2 : j < k
    · rw [if_pos h2, if_pos (by omega)]
    · rw [if_neg h2, if_neg (by omega)]
section ZF
variable {p : Program} {l : Launch} {e : Env} {R : Room} {s : State} {m : MethodId} {args : Array Value} {below : List Frame} {meth : Method} {c : Code} {H : Heap} {locs : List Loc} {cells slots : Nat} {Q : State → Prop}
variable {cc : ByteArray} {nL : Nat} {own : String} {pc : Nat} {ls : Array Slot} {rest : List Value} {D : va_G} {ca : Nat → ClassId} {ws : va_W} {A : Nat → Prop} {H0 : Heap}
theorem z_putF {C : String} {T : u_T} {N ci index a : Nat} {ty0 : Nat → FieldType} (S : CallFix p m c cc nL s args wAll own) (hin : ∀ w ∈ u_ws C T N, w ∈ wAll) (hty : ∀ k, k < N → parseFieldDescriptor (T k).2.2.1 = some (ty0 k)) (hnm : ∀ a, a < N → ∀ b, b < N → a ≠ b → (T a).2.1 ≠ (T b).2.1) (hK : zK D ca s) (hP : va_P D vwCl ws H) (hD : va_D A ws) (hS : va_S A H0 H locs) (hc : vwCl[ci]? = some (C, T, N)) (q0 : Nat) {fs : List Value} (he : ws[q0]? = some (a, .inr (ci, fs))) (k : Nat) (hk : k < N) (hlink : Cond.fieldLink own index C (T k).2.1 (T k).2.2.1 ∈ wAll) (hr : (T k).1 = C) (hfin : (T k).2.2.2 = true) (hnme : meth.name = "<init>") (hown : (T k).1 = own) {v : Value} (hn : narrow (ty0 k) v = v) (hfit : fits (ty0 k) v = true) (hl : k < fs.length) (hdg : decode cc pc = .ok (.putfield index, 3))
    (kk : ∀ (H1 : Heap) (locs1 : List Loc), va_P D vwCl (ws.set q0 (a, .inr (ci, fs.set k v))) H1 → va_S A H0 H1 locs1 → W p l e R s m args below meth c H1 locs1 cells slots Q (F0 m (pc + 3) ls rest)) : W p l e R s m args below meth c H locs cells slots Q (F0 m pc ls (v :: .ref a :: rest)) :=
  va_putF S.1 S.2.1 S.2.2.2.2 hin ty0 hty hnm S.2.2.2.1 hK hP hD hS q0 he hc k hk (S.2.2.2.2 _ hlink) (fun _ h => by rw [← hr]; exact h) hfin hnme hown (hty k hk) hn hfit hl hdg (fun H1 locs1 h1 _ h3 => kk H1 locs1 h1 h3)
theorem zcS1 {y : MethodName} {b : ByteArray} {nY fr lo n index i a : Nat} {e0 e1 : va_E} {As : List Value} {st0 : List Value} (S : CallFix p m c cc nL s args wAll own) (hM : zMw l y b nY none fr lo D ca [(a, e0)] [(a, e1)] As none) (hl : Cond.methodLink own index y ∈ wAll) (hY : zY y b nY none n) (hstt : Cond.static y ∈ wAll)
    (hR : fr + 1 ≤ R.frames ∧ 8 + (nY + 11) + lo ≤ R.locals) (hK : zK D ca s) (hP : va_P D vwCl ws H) (hD : va_D A ws) (hS : va_S A H0 H locs) (hi : ws[i]? = some (a, e0)) (hn : As.length = n) (hsz : ls.size = nL) (hst : st0 = As.reverse ++ rest) (hroom : (rest.map fun v => v.category).sum ≤ 8) (hcs : cells ≤ R.cells ∧ slots ≤ R.slots) (hdg : decode cc pc = .ok (.invokestatic index, 3))
    (kk : ∀ (H1 : Heap) (locs1 : List Loc), va_P D vwCl (ws.set i (a, e1)) H1 → va_D A (ws.set i (a, e1)) → va_S A H0 H1 locs1 → W p l e R s m args below meth c H1 locs1 cells slots Q (F0 m (pc + 3) ls rest)) : W p l e R s m args below meth c H locs cells slots Q (F0 m pc ls st0) := by
  have hPc : va_P D vwCl [(a, e0)] H := hP.sub [i] (by simp [hi])
  have hcw := va_cwS (R := R) (mc := 0) (ms := 0) (rm := { frames := fr, cells := 0, slots := 0, locals := lo }) (ws := Cond.code y b nY none :: wAll) n S.2.2.2.2 (zgood (fun w hw => by
    unfold va_wsS at hw
    rcases List.mem_append.mp hw with h | h
    · simp only [List.mem_cons, List.not_mem_nil, or_false] at h
      rcases h with h | h | h <;> rw [h]
      · exact hl
      · exact hstt
      · exact hY.2.1
    · rcases List.mem_cons.mp h with h | h
      · rw [h]; exact hY.1
      · exact h)) rfl rfl rfl ⟨hY.2.2.1, hY.2.2.2.1, hY.2.2.2.2⟩ hR
  have hrun := va_runS (rest := rest) (g := F0 m pc ls st0) (H := H) (locs := locs) (cells := cells) (slots := slots) (below := below) (e := e) (meth := meth) S hM hcw ⟨zblind, fun U hU hW => ⟨rfl, by rw [hU]; exact hPc, va_K.moved hW.alike hK⟩⟩ rfl hn hsz hst (lv_room hroom) hdg ⟨by simpa using hcs.1, by simpa using hcs.2⟩
  intro T hT X
  obtain ⟨v, st₀, t, T', L, h0, X', hL, e9, -, ⟨hv, hp1, hz, hk⟩, st⟩ := hrun T hT X
  cases hv
  rw [h0] at hz hk
  have hAa : A a := hD.2 i _ hi
  have hk' : ∀ q : Nat, q < H.size → q ≠ a → T'.heap[q]? = H[q]? := fun q h1 h2 => by rw [e9]; exact hk q h1 (fun h => h2 (List.mem_singleton.mp h))
  obtain ⟨t2, a1, b1⟩ := kk T'.heap (locs ++ L) (by
    intro k q hq
    by_cases hik : i = k
    · subst hik
      rw [List.getElem?_set_self (List.getElem?_eq_some_iff.mp hi).1] at hq
      cases hq
      rw [e9]
      exact hp1 0 _ rfl
    · rw [List.getElem?_set_ne hik] at hq
      exact (hP k q hq).kept (hk' _ (hP k q hq).lt (fun h => hik (hD.1 i k _ q hi hq h.symm)))) (hD.set hi) ⟨Nat.le_trans hS.1 (by rw [e9]; exact hz), fun q h1 h2 => by rw [hk' q (Nat.lt_of_lt_of_le h1 hS.1) (fun z => h2 (z ▸ hAa))]; exact hS.2.1 q h1 h2, fun q hq => by
      rcases List.mem_append.mp hq with h | h
      · exact hS.2.2 q h
      · have := hL q h
        rw [List.mem_singleton.mp this]; exact hAa⟩ T' rfl X'
  exact ⟨t2, st t2 a1, b1⟩
end ZF
