/-! MY OWN ROWS OVER THE KIT'S: the world is one list of cells; what stands of the tables is one fact (zK); a method that only reads (zMr), a method that writes in its world (zMw), both with their answer and the world behind them told exactly. -/
abbrev zTY (ca : Nat → ClassId) : List (ClassId × FieldType) := [(ca 0, .int), (ca 1, .char), (ca 2, .int), (ca 3, .object "SeenPages$State")]
abbrev zK (D : va_G) (ca : Nat → ClassId) (U : State) : Prop := va_K D vwCl (zTY ca) U
/-- a boolean as Java has it -/
def zb (b : Bool) : Int32 := if b then 1 else 0
theorem zb_t {b : Bool} (h : b = true) : zb b = 1 := by rw [h]; rfl
theorem zb_f {b : Bool} (h : b = false) : zb b = 0 := by rw [h]; rfl
theorem zb_eq0 {b : Bool} : zb b = 0 ↔ b = false := by cases b <;> decide
theorem zb_nar (b : Bool) : narrow .boolean (.int (zb b)) = .int (zb b) := by cases b <;> rfl
theorem nI_lit (n : Nat) : (OfNat.ofNat n : Int32) = nI n := rfl
theorem zgood {L : List Cond} (h : ∀ w ∈ L, w ∈ wAll) : GoodIn wAll L := fun w hw => ⟨h w hw, good_of_word (List.mem_filter.mp (h w hw)).2⟩
theorem zgoodC {y : MethodName} {b : ByteArray} {n : Nat} {rt : Option FieldType} (h : Cond.code y b n rt ∈ wAll) : GoodIn wAll (Cond.code y b n rt :: wAll) := zgood (fun w hw => (List.mem_cons.mp hw).elim (fun e => e ▸ h) id)
/-- what a world's addresses are -/
theorem zDto {A : Nat → Prop} {ws : va_W} {l : List Nat} (hN : l.Nodup) (hA : ∀ q ∈ l, A q) (hl : ws.map Prod.fst = l) : va_D A ws := by
  have key : ∀ (k : Nat) (q : Nat × va_E), ws[k]? = some q → l[k]? = some q.1 := by
    intro k q hk
    rw [← hl, List.getElem?_map, hk]
    rfl
  refine ⟨fun i j x y hi hj hxy => ?_, fun k q hk => hA _ (List.mem_of_getElem? (key k q hk))⟩
  have h1 := key i x hi
  have h2 := key j y hj
  rw [hxy] at h1
  have l1 := (List.getElem?_eq_some_iff.mp h1).1
  exact (List.getElem?_inj l1 hN).mp (h1.trans h2.symm)
theorem znd_pick {l l' : List Nat} (h : l.Nodup) (is : List Nat) (hn : va_nd is = true) (hs : is.map (fun i => l[i]?) = l'.map some) : l'.Nodup := by
  have key : ∀ (k : Nat) (q : Nat), l'[k]? = some q → ∃ i, is[k]? = some i ∧ l[i]? = some q := by
    intro k q hk
    have h1 : (is.map (fun i => l[i]?))[k]? = some (some q) := by rw [hs, List.getElem?_map, hk]; rfl
    rw [List.getElem?_map] at h1
    cases hi : is[k]? with
    | none => rw [hi] at h1; cases h1
    | some i => rw [hi] at h1; exact ⟨i, rfl, Option.some.inj h1⟩
  refine List.pairwise_iff_getElem.mpr (fun i j hi hj hij e => ?_)
  obtain ⟨a, a1, a2⟩ := key i _ (List.getElem?_eq_getElem hi)
  obtain ⟨b, b1, b2⟩ := key j _ (List.getElem?_eq_getElem hj)
  rw [e] at a2
  have hab : a = b := (List.getElem?_inj (List.getElem?_eq_some_iff.mp a2).1 h).mp (a2.trans b2.symm)
  subst hab
  exact absurd (va_nd_inj is hn i j a a1 b1) (Nat.ne_of_lt hij)
def zset (ws : va_W) (is : List Nat) (wc : va_W) : va_W := (is.zip wc).foldl (fun w p => w.set p.1 p.2) ws
theorem zset_mem : ∀ (is : List Nat) (wc ws : va_W) (k : Nat) (q : Nat × va_E), (zset ws is wc)[k]? = some q → (∃ j : Nat, is[j]? = some k ∧ wc[j]? = some q) ∨ (ws[k]? = some q ∧ ∀ j : Nat, is[j]? = some k → wc.length ≤ j) := by
  intro is
  induction is with
  | nil => intro wc ws k q h; exact Or.inr ⟨h, fun j hj => by simp at hj⟩
  | cons i is ih =>
    intro wc ws k q h
    cases wc with
    | nil => exact Or.inr ⟨h, fun j _ => Nat.zero_le _⟩
    | cons c wc =>
      have h' : (zset (ws.set i c) is wc)[k]? = some q := h
      rcases ih wc (ws.set i c) k q h' with ⟨j, h1, h2⟩ | ⟨h1, h2⟩
      · exact Or.inl ⟨j + 1, h1, h2⟩
      · by_cases hik : i = k
        · subst hik
          have hl : i < ws.length := by
            have := (List.getElem?_eq_some_iff.mp h1).1
            simpa using this
          rw [List.getElem?_set_self hl] at h1
          exact Or.inl ⟨0, rfl, h1⟩
        · rw [List.getElem?_set_ne hik] at h1
          refine Or.inr ⟨h1, fun j hj => ?_⟩
          cases j with
          | zero => exact absurd (Option.some.inj hj) hik
          | succ j => exact Nat.succ_le_succ (h2 j hj)
def zA (l : List Nat) : Nat → Prop := fun q => q ∈ l
/-- behind a call: the callee's cells as it left them, the others as they were -/
theorem zback {D : va_G} {A : Nat → Prop} {ws wc wc' : va_W} {H H1 : Heap} {is : List Nat} (hP : va_P D vwCl ws H) (hD : va_D A ws) (hC : is.map (fun i => ws[i]?) = wc.map some) (hf : wc'.map Prod.fst = wc.map Prod.fst)
    (hk : ∀ q : Nat, q < H.size → ¬ zA (wc.map Prod.fst) q → H1[q]? = H[q]?) (hP1 : va_P D vwCl wc' H1) : va_P D vwCl (zset ws is wc') H1 := by
  intro k q hq
  rcases zset_mem is wc' ws k q hq with ⟨j, -, h2⟩ | ⟨h1, h2⟩
  · exact hP1 j q h2
  · refine (hP k q h1).kept (hk _ (hP k q h1).lt (fun hm => ?_))
    obtain ⟨⟨a, e⟩, hme, hae⟩ := List.mem_map.mp hm
    obtain ⟨j, hj⟩ := List.getElem?_of_mem hme
    have h3 : (is.map (fun i => ws[i]?))[j]? = some (some (a, e)) := by rw [hC, List.getElem?_map, hj]; rfl
    rw [List.getElem?_map] at h3
    cases hi : is[j]? with
    | none => rw [hi] at h3; cases h3
    | some i =>
      rw [hi] at h3
      have h4 : ws[i]? = some (a, e) := Option.some.inj h3
      have hik : i = k := hD.1 i k (a, e) q h4 h1 hae
      subst hik
      have hlen : wc'.length = wc.length := by simpa using congrArg List.length hf
      have := h2 j hi
      have hjl := (List.getElem?_eq_some_iff.mp hj).1
      omega
/-- a method that only reads: its answer -/
def zMr (l : Launch) (y : MethodName) (b : ByteArray) (nY : Nat) (rt : Option FieldType) (fr lo : Nat) (D : va_G) (ca : Nat → ClassId) (w : va_W) (As : List Value) (rv : Value) : Prop :=
  Met l y (Cond.code y b nY rt :: wAll) { frames := fr, cells := 0, slots := 0, locals := lo } (va_Pc As (fun U => va_P D vwCl w U.heap ∧ zK D ca U)) (fun _ st o t => o = .returned (some rv) ∧ t.heap = st.heap) 0 0 (fun _ => False)
/-- a method that writes in its world, and makes nothing: its answer, and the world behind it -/
def zMw (l : Launch) (y : MethodName) (b : ByteArray) (nY : Nat) (rt : Option FieldType) (fr lo : Nat) (D : va_G) (ca : Nat → ClassId) (w w' : va_W) (As : List Value) (rv : Option Value) : Prop :=
  Met l y (Cond.code y b nY rt :: wAll) { frames := fr, cells := 0, slots := 0, locals := lo } (va_Pc As (fun U => va_P D vwCl w U.heap ∧ zK D ca U)) (fun _ st o t => o = .returned rv ∧ va_P D vwCl w' t.heap ∧ va_F (zA (w.map Prod.fst)) st t) 0 0 (zA (w.map Prod.fst))
abbrev zQr (rv : Value) : Array Value → State → Outcome → State → Prop := fun _ st o t => o = .returned (some rv) ∧ t.heap = st.heap
abbrev zQw (D : va_G) (l : List Nat) (w' : va_W) (rv : Option Value) : Array Value → State → Outcome → State → Prop := fun _ st o t => o = .returned rv ∧ va_P D vwCl w' t.heap ∧ va_F (zA l) st t
theorem zblind {D : va_G} {ca : Nat → ClassId} {w : va_W} {As : List Value} : FrameBlind (va_Pc As (fun U => va_P D vwCl w U.heap ∧ zK D ca U)) := fun a U g mk q => by
  obtain ⟨q0, q1, q2⟩ := q
  exact ⟨q0, q1, va_K.moved (u := U) (U := U.calling g mk a) (Vm.Alike.refl U.vm) q2⟩
/-- what is said of a method's name and code, at whatever call of it -/
def zY (y : MethodName) (b : ByteArray) (nY : Nat) (rt : Option FieldType) (n : Nat) : Prop :=
  Cond.code y b nY rt ∈ wAll ∧ Cond.initialized y.cls ∈ wAll ∧ y.cls ≠ "java/lang/invoke/MethodHandle" ∧ y.cls ≠ "java/lang/invoke/VarHandle" ∧ (parseMethodDescriptor y.desc).map (fun d => d.parameters.length) = some n
section ZK
variable {p : Program} {l : Launch} {e : Env} {R : Room} {s : State} {m : MethodId} {args : Array Value} {below : List Frame} {meth : Method} {c : Code} {H : Heap} {locs : List Loc} {cells slots : Nat} {Q : State → Prop}
variable {cc : ByteArray} {nL : Nat} {own : String} {pc : Nat} {ls : Array Slot} {rest : List Value} {D : va_G} {ca : Nat → ClassId} {ws : va_W} {A : Nat → Prop} {H0 : Heap} {a : Nat}
theorem zMr_of {y : MethodName} {b : ByteArray} {nY : Nat} {rt : Option FieldType} {fr lo : Nat} {w : va_W} {As : List Value} {rv : Value} (hy : plainName y.cls = true) (ho : y.cls = own) (hlen : (lg_sl As).length ≤ nY)
    (body : ∀ (p : Program) (e : Env) (s : State) (m : MethodId) (args : Array Value) (below : List Frame) (meth : Method) (c : Code) (ls : Array Slot), CallFix p m c b nY s args wAll own → meth.sig.returnType = rt → meth.locks = false → va_P D vwCl w s.heap → zK D ca s → lv_has ls nY (lv_args 0 As) →
      W p l e { frames := fr, cells := 0, slots := 0, locals := lo } s m args below meth c s.heap [] 0 0 (MQ below (zQr rv) args s 0 0 (fun _ => False)) (F0 m 0 ls [])) : zMr l y b nY rt fr lo D ca w As rv := by
  refine Met.ofW (cc := b) (maxL := nY) (ret := rt) hy rfl ?_
  intro p e s m args below meth c s₁ B hml hv
  obtain ⟨rfl, hP, hK⟩ := hv
  have hl := lv_entry As (n := nY) hlen
  rw [lg_entry_eq]
  have hts := atoms_spec (ws := Cond.code y b nY rt :: wAll) B.pre
  exact body p e s m _ below meth c _ ⟨B.exec, B.bytes, hml, ho ▸ findClass_of_methodNamed B.named, fun w h => hts w (List.mem_cons_of_mem _ h)⟩ B.returns B.notSynchronized hP hK hl
theorem zMw_of {y : MethodName} {b : ByteArray} {nY : Nat} {rt : Option FieldType} {fr lo : Nat} {w w' : va_W} {As : List Value} {rv : Option Value} (hy : plainName y.cls = true) (ho : y.cls = own) (hlen : (lg_sl As).length ≤ nY)
    (body : ∀ (p : Program) (e : Env) (s : State) (m : MethodId) (args : Array Value) (below : List Frame) (meth : Method) (c : Code) (ls : Array Slot), CallFix p m c b nY s args wAll own → meth.sig.returnType = rt → meth.locks = false → va_P D vwCl w s.heap → zK D ca s → lv_has ls nY (lv_args 0 As) → va_S (zA (w.map Prod.fst)) s.heap s.heap [] →
      W p l e { frames := fr, cells := 0, slots := 0, locals := lo } s m args below meth c s.heap [] 0 0 (MQ below (zQw D (w.map Prod.fst) w' rv) args s 0 0 (zA (w.map Prod.fst))) (F0 m 0 ls [])) : zMw l y b nY rt fr lo D ca w w' As rv := by
  refine Met.ofW (cc := b) (maxL := nY) (ret := rt) hy rfl ?_
  intro p e s m args below meth c s₁ B hml hv
  obtain ⟨rfl, hP, hK⟩ := hv
  have hl := lv_entry As (n := nY) hlen
  rw [lg_entry_eq]
  have hts := atoms_spec (ws := Cond.code y b nY rt :: wAll) B.pre
  exact body p e s m _ below meth c _ ⟨B.exec, B.bytes, hml, ho ▸ findClass_of_methodNamed B.named, fun w h => hts w (List.mem_cons_of_mem _ h)⟩ B.returns B.notSynchronized hP hK hl va_S.rf
-- ends of a method that reads
theorem zr_i (hx : p.tables.exec = Jvm.exec) (hb : c.code = cc) (hr : meth.sig.returnType = some .int) (hlk : meth.locks = false) {v rv : Int32} (hv : v = rv) (hdg : decode cc pc = .ok (.ireturn, 1)) : W p l e R s m args below meth c s.heap [] 0 0 (MQ below (zQr (.int rv)) args s 0 0 (fun _ => False)) (F0 m pc ls [.int v]) := by
  subst hv
  exact W.iret hx hb hr (fun t ht _ => ⟨rfl, ht⟩) (fun _ h => absurd h List.not_mem_nil) hdg hlk
theorem zr_z (hx : p.tables.exec = Jvm.exec) (hb : c.code = cc) (hr : meth.sig.returnType = some .boolean) (hlk : meth.locks = false) {v : Int32} {B : Bool} (hv : v = zb B) (hdg : decode cc pc = .ok (.ireturn, 1)) : W p l e R s m args below meth c s.heap [] 0 0 (MQ below (zQr (.int (zb B))) args s 0 0 (fun _ => False)) (F0 m pc ls [.int v]) := by
  subst hv
  exact W.zret hx hb hr (zb_nar B) (fun t ht _ => ⟨rfl, ht⟩) (fun _ h => absurd h List.not_mem_nil) hdg hlk
theorem zr_n {ty : FieldType} (hx : p.tables.exec = Jvm.exec) (hb : c.code = cc) (hr : meth.sig.returnType = some ty) (hlk : meth.locks = false) {v rv : Int32} (hv : v = rv) (hn : narrow ty (.int rv) = .int rv) (hdg : decode cc pc = .ok (.ireturn, 1)) : W p l e R s m args below meth c s.heap [] 0 0 (MQ below (zQr (.int rv)) args s 0 0 (fun _ => False)) (F0 m pc ls [.int v]) := by
  subst hv
  exact W.zret hx hb hr hn (fun t ht _ => ⟨rfl, ht⟩) (fun _ h => absurd h List.not_mem_nil) hdg hlk
theorem zr_l (hx : p.tables.exec = Jvm.exec) (hb : c.code = cc) (hr : meth.sig.returnType = some .long) (hlk : meth.locks = false) {v rv : Int64} (hv : v = rv) (hdg : decode cc pc = .ok (.lreturn, 1)) : W p l e R s m args below meth c s.heap [] 0 0 (MQ below (zQr (.long rv)) args s 0 0 (fun _ => False)) (F0 m pc ls [.long v]) := by
  subst hv
  exact W.lret hx hb hr (fun t ht _ => ⟨rfl, ht⟩) (fun _ h => absurd h List.not_mem_nil) hdg hlk
theorem zr_d (hx : p.tables.exec = Jvm.exec) (hb : c.code = cc) (hr : meth.sig.returnType = some .double) (hlk : meth.locks = false) {v rv : UInt64} (hv : v = rv) (hdg : decode cc pc = .ok (.dreturn, 1)) : W p l e R s m args below meth c s.heap [] 0 0 (MQ below (zQr (.double rv)) args s 0 0 (fun _ => False)) (F0 m pc ls [.double v]) := by
  subst hv
  exact W.dret hx hb hr (fun t ht _ => ⟨rfl, ht⟩) (fun _ h => absurd h List.not_mem_nil) hdg hlk
-- ends of a method that writes
theorem zw_i {l0 : List Nat} {w' : va_W} (hx : p.tables.exec = Jvm.exec) (hb : c.code = cc) (hr : meth.sig.returnType = some .int) (hlk : meth.locks = false) (hP : va_P D vwCl ws H) (hS : va_S (zA l0) s.heap H locs) {v rv : Int32} (hv : v = rv ∧ ws = w') (hdg : decode cc pc = .ok (.ireturn, 1)) : W p l e R s m args below meth c H locs 0 0 (MQ below (zQw D l0 w' (some (.int rv))) args s 0 0 (zA l0)) (F0 m pc ls [.int v]) := by
  obtain ⟨rfl, rfl⟩ := hv
  exact W.iret hx hb hr (fun t ht _ => ⟨rfl, by rw [ht]; exact hP, hS.F ht⟩) hS.2.2 hdg hlk
theorem zw_z {l0 : List Nat} {w' : va_W} (hx : p.tables.exec = Jvm.exec) (hb : c.code = cc) (hr : meth.sig.returnType = some .boolean) (hlk : meth.locks = false) (hP : va_P D vwCl ws H) (hS : va_S (zA l0) s.heap H locs) {v : Int32} {B : Bool} (hv : v = zb B ∧ ws = w') (hdg : decode cc pc = .ok (.ireturn, 1)) : W p l e R s m args below meth c H locs 0 0 (MQ below (zQw D l0 w' (some (.int (zb B)))) args s 0 0 (zA l0)) (F0 m pc ls [.int v]) := by
  obtain ⟨rfl, rfl⟩ := hv
  exact W.zret hx hb hr (zb_nar B) (fun t ht _ => ⟨rfl, by rw [ht]; exact hP, hS.F ht⟩) hS.2.2 hdg hlk
theorem zw_l {l0 : List Nat} {w' : va_W} (hx : p.tables.exec = Jvm.exec) (hb : c.code = cc) (hr : meth.sig.returnType = some .long) (hlk : meth.locks = false) (hP : va_P D vwCl ws H) (hS : va_S (zA l0) s.heap H locs) {v rv : Int64} (hv : v = rv ∧ ws = w') (hdg : decode cc pc = .ok (.lreturn, 1)) : W p l e R s m args below meth c H locs 0 0 (MQ below (zQw D l0 w' (some (.long rv))) args s 0 0 (zA l0)) (F0 m pc ls [.long v]) := by
  obtain ⟨rfl, rfl⟩ := hv
  exact W.lret hx hb hr (fun t ht _ => ⟨rfl, by rw [ht]; exact hP, hS.F ht⟩) hS.2.2 hdg hlk
theorem zw_d {l0 : List Nat} {w' : va_W} (hx : p.tables.exec = Jvm.exec) (hb : c.code = cc) (hr : meth.sig.returnType = some .double) (hlk : meth.locks = false) (hP : va_P D vwCl ws H) (hS : va_S (zA l0) s.heap H locs) {v rv : UInt64} (hv : v = rv ∧ ws = w') (hdg : decode cc pc = .ok (.dreturn, 1)) : W p l e R s m args below meth c H locs 0 0 (MQ below (zQw D l0 w' (some (.double rv))) args s 0 0 (zA l0)) (F0 m pc ls [.double v]) := by
  obtain ⟨rfl, rfl⟩ := hv
  exact W.dret hx hb hr (fun t ht _ => ⟨rfl, by rw [ht]; exact hP, hS.F ht⟩) hS.2.2 hdg hlk
theorem zw_v {l0 : List Nat} {w' : va_W} (hx : p.tables.exec = Jvm.exec) (hb : c.code = cc) (hr : meth.sig.returnType = none) (hlk : meth.locks = false) (hP : va_P D vwCl ws H) (hS : va_S (zA l0) s.heap H locs) (hv : ws = w') (hdg : decode cc pc = .ok (.return_, 1)) : W p l e R s m args below meth c H locs 0 0 (MQ below (zQw D l0 w' none) args s 0 0 (zA l0)) (F0 m pc ls []) := by
  subst hv
  exact W.vret hx hb hr (fun t ht _ => ⟨rfl, by rw [ht]; exact hP, hS.F ht⟩) hS.2.2 hdg hlk
-- fields
theorem z_get {C : String} {T : u_T} {N ci index : Nat} (S : CallFix p m c cc nL s args wAll own) (hin : ∀ w ∈ u_ws C T N, w ∈ wAll) (hK : zK D ca s) (hP : va_P D vwCl ws H) (hc : vwCl[ci]? = some (C, T, N)) (q0 : Nat) {fs : List Value} (he : ws[q0]? = some (a, .inr (ci, fs))) (k : Nat) (hk : k < N) (hlink : Cond.fieldLink own index C (T k).2.1 (T k).2.2.1 ∈ wAll) (hr : (T k).1 = C) {v : Value} (hv : fs[k]? = some v) (hdg : decode cc pc = .ok (.getfield index, 3))
    (kk : W p l e R s m args below meth c H locs cells slots Q (F0 m (pc + 3) ls (v :: rest))) : W p l e R s m args below meth c H locs cells slots Q (F0 m pc ls (.ref a :: rest)) :=
  va_get S.1 S.2.1 S.2.2.2.2 hin S.2.2.2.1 hK hP q0 he hc k hk (S.2.2.2.2 _ hlink) (fun _ h => by rw [← hr]; exact h) hv hdg kk
theorem z_put {C : String} {T : u_T} {N ci index : Nat} {ty0 : Nat → FieldType} (S : CallFix p m c cc nL s args wAll own) (hin : ∀ w ∈ u_ws C T N, w ∈ wAll) (hty : ∀ k, k < N → parseFieldDescriptor (T k).2.2.1 = some (ty0 k)) (hnm : ∀ a, a < N → ∀ b, b < N → a ≠ b → (T a).2.1 ≠ (T b).2.1) (hK : zK D ca s) (hP : va_P D vwCl ws H) (hD : va_D A ws) (hS : va_S A H0 H locs) (hc : vwCl[ci]? = some (C, T, N)) (q0 : Nat) {fs : List Value} (he : ws[q0]? = some (a, .inr (ci, fs))) (k : Nat) (hk : k < N) (hlink : Cond.fieldLink own index C (T k).2.1 (T k).2.2.1 ∈ wAll) (hr : (T k).1 = C) (hfin : (T k).2.2.2 = false) {v : Value} (hn : narrow (ty0 k) v = v) (hfit : fits (ty0 k) v = true) (hl : k < fs.length) (hdg : decode cc pc = .ok (.putfield index, 3))
    (kk : ∀ (H1 : Heap) (locs1 : List Loc), va_P D vwCl (ws.set q0 (a, .inr (ci, fs.set k v))) H1 → va_S A H0 H1 locs1 → W p l e R s m args below meth c H1 locs1 cells slots Q (F0 m (pc + 3) ls rest)) : W p l e R s m args below meth c H locs cells slots Q (F0 m pc ls (v :: .ref a :: rest)) :=
  va_put S.1 S.2.1 S.2.2.2.2 hin ty0 hty hnm S.2.2.2.1 hK hP hD hS q0 he hc k hk (S.2.2.2.2 _ hlink) (fun _ h => by rw [← hr]; exact h) hfin (hty k hk) hn hfit hl hdg (fun H1 locs1 h1 _ h3 => kk H1 locs1 h1 h3)
-- arrays
theorem z_iald (S : CallFix p m c cc nL s args wAll own) (hK : zK D ca s) (hP : va_P D vwCl ws H) (q0 : Nat) {n j : Nat} {f : Nat → Int32} (he : ws[q0]? = some (a, .inl (ca 0, n, .inl f))) (hj : j < n) (hn : n < 2 ^ 31) (hdg : decode cc pc = .ok (.iaload, 1))
    (kk : W p l e R s m args below meth c H locs cells slots Q (F0 m (pc + 1) ls (.int (f j) :: rest))) : W p l e R s m args below meth c H locs cells slots Q (F0 m pc ls (.int (nI j) :: .ref a :: rest)) := by
  refine va_iald S.1 S.2.1 hK hP q0 0 he rfl (vp_in_nI hj hn) hdg ?_
  rw [nI_clamp (by omega)]
  exact kk
theorem z_cald (S : CallFix p m c cc nL s args wAll own) (hK : zK D ca s) (hP : va_P D vwCl ws H) (q0 : Nat) {n j : Nat} {f : Nat → Int32} (he : ws[q0]? = some (a, .inl (ca 1, n, .inl f))) (hj : j < n) (hn : n < 2 ^ 31) (hdg : decode cc pc = .ok (.caload, 1))
    (kk : W p l e R s m args below meth c H locs cells slots Q (F0 m (pc + 1) ls (.int (f j) :: rest))) : W p l e R s m args below meth c H locs cells slots Q (F0 m pc ls (.int (nI j) :: .ref a :: rest)) := by
  refine va_cald S.1 S.2.1 hK hP q0 1 he rfl (vp_in_nI hj hn) hdg ?_
  rw [nI_clamp (by omega)]
  exact kk
theorem z_aldq (S : CallFix p m c cc nL s args wAll own) (hK : zK D ca s) (hP : va_P D vwCl ws H) (q0 : Nat) {n j : Nat} {f : Nat → Option Nat} (he : ws[q0]? = some (a, .inl (ca 3, n, .inr (.inr (.inr (.inr f)))))) (hj : j < n) (hn : n < 2 ^ 31) {b : Nat} (hf : f j = some b) (hdg : decode cc pc = .ok (.aaload, 1))
    (kk : W p l e R s m args below meth c H locs cells slots Q (F0 m (pc + 1) ls (.ref b :: rest))) : W p l e R s m args below meth c H locs cells slots Q (F0 m pc ls (.int (nI j) :: .ref a :: rest)) := by
  refine va_aldq S.1 S.2.1 hK hP q0 3 he rfl (vp_in_nI hj hn) hdg ?_
  rw [nI_clamp (by omega), hf]
  exact kk
theorem z_iast (S : CallFix p m c cc nL s args wAll own) (hK : zK D ca s) (hP : va_P D vwCl ws H) (hD : va_D A ws) (hS : va_S A H0 H locs) (q0 : Nat) {n j : Nat} {f : Nat → Int32} (he : ws[q0]? = some (a, .inl (ca 0, n, .inl f))) (hj : j < n) (hn : n < 2 ^ 31) {x : Int32} (hdg : decode cc pc = .ok (.iastore, 1))
    (kk : ∀ (H1 : Heap) (locs1 : List Loc), va_P D vwCl (ws.set q0 (a, .inl (ca 0, n, .inl (upd f j x)))) H1 → va_S A H0 H1 locs1 → W p l e R s m args below meth c H1 locs1 cells slots Q (F0 m (pc + 1) ls rest)) : W p l e R s m args below meth c H locs cells slots Q (F0 m pc ls (.int x :: .int (nI j) :: .ref a :: rest)) := by
  refine va_iast S.1 S.2.1 hK hP hD hS q0 0 he rfl (vp_in_nI hj hn) hdg (fun H1 locs1 h1 _ h3 => ?_)
  rw [nI_clamp (by omega)] at h1
  exact kk H1 locs1 h1 h3
theorem z_cast (S : CallFix p m c cc nL s args wAll own) (hK : zK D ca s) (hP : va_P D vwCl ws H) (hD : va_D A ws) (hS : va_S A H0 H locs) (q0 : Nat) {n j : Nat} {f : Nat → Int32} (he : ws[q0]? = some (a, .inl (ca 1, n, .inl f))) (hj : j < n) (hn : n < 2 ^ 31) {k : Nat} (hk : k < 65536) (hdg : decode cc pc = .ok (.castore, 1))
    (kk : ∀ (H1 : Heap) (locs1 : List Loc), va_P D vwCl (ws.set q0 (a, .inl (ca 1, n, .inl (upd f j (nI k))))) H1 → va_S A H0 H1 locs1 → W p l e R s m args below meth c H1 locs1 cells slots Q (F0 m (pc + 1) ls rest)) : W p l e R s m args below meth c H locs cells slots Q (F0 m pc ls (.int (nI k) :: .int (nI j) :: .ref a :: rest)) := by
  refine va_cast S.1 S.2.1 hK hP hD hS q0 1 he rfl (vp_in_nI hj hn) hdg (fun H1 locs1 h1 _ h3 => ?_)
  have h5 : vp_nar .char (nI k) = nI k := by
    have := (pk_charN hk).1
    unfold vp_nar
    rw [this]
  rw [nI_clamp (by omega), h5] at h1
  exact kk H1 locs1 h1 h3
theorem zn_eq (hx : p.tables.exec = Jvm.exec) (hb : c.code = cc) {x y : Nat} (h1 : x < 2 ^ 31) (h2 : y < 2 ^ 31) {off : Int} {tgt : Nat} (hdg : decode cc pc = .ok (.if_icmp .eq off, 3)) (ht : (pc : Int) + off = (tgt : Int)) (kt : x = y → W p l e R s m args below meth c H locs cells slots Q (F0 m tgt ls rest)) (kf : ¬ x = y → W p l e R s m args below meth c H locs cells slots Q (F0 m (pc + 3) ls rest)) : W p l e R s m args below meth c H locs cells slots Q (F0 m pc ls (.int (nI y) :: .int (nI x) :: rest)) :=
  lv_icmp_eq hx hb hdg ht (fun h => kt ((nI_eq h1 h2).mp h)) (fun h => kf (fun q => h ((nI_eq h1 h2).mpr q)))
theorem zn_ne (hx : p.tables.exec = Jvm.exec) (hb : c.code = cc) {x y : Nat} (h1 : x < 2 ^ 31) (h2 : y < 2 ^ 31) {off : Int} {tgt : Nat} (hdg : decode cc pc = .ok (.if_icmp .ne off, 3)) (ht : (pc : Int) + off = (tgt : Int)) (kt : ¬ x = y → W p l e R s m args below meth c H locs cells slots Q (F0 m tgt ls rest)) (kf : x = y → W p l e R s m args below meth c H locs cells slots Q (F0 m (pc + 3) ls rest)) : W p l e R s m args below meth c H locs cells slots Q (F0 m pc ls (.int (nI y) :: .int (nI x) :: rest)) :=
  lv_icmp_ne hx hb hdg ht (fun h => kt (fun q => h ((nI_eq h1 h2).mpr q))) (fun h => kf ((nI_eq h1 h2).mp h))
theorem zn_ge (hx : p.tables.exec = Jvm.exec) (hb : c.code = cc) {x y : Nat} (h1 : x < 2 ^ 31) (h2 : y < 2 ^ 31) {off : Int} {tgt : Nat} (hdg : decode cc pc = .ok (.if_icmp .ge off, 3)) (ht : (pc : Int) + off = (tgt : Int)) (kt : y ≤ x → W p l e R s m args below meth c H locs cells slots Q (F0 m tgt ls rest)) (kf : x < y → W p l e R s m args below meth c H locs cells slots Q (F0 m (pc + 3) ls rest)) : W p l e R s m args below meth c H locs cells slots Q (F0 m pc ls (.int (nI y) :: .int (nI x) :: rest)) :=
  lv_icmp_ge hx hb hdg ht (fun h => kt ((nI_leI h2 h1).mp h)) (fun h => kf (Nat.not_le.mp (fun q => h ((nI_leI h2 h1).mpr q))))
theorem zn_lt (hx : p.tables.exec = Jvm.exec) (hb : c.code = cc) {x y : Nat} (h1 : x < 2 ^ 31) (h2 : y < 2 ^ 31) {off : Int} {tgt : Nat} (hdg : decode cc pc = .ok (.if_icmp .lt off, 3)) (ht : (pc : Int) + off = (tgt : Int)) (kt : x < y → W p l e R s m args below meth c H locs cells slots Q (F0 m tgt ls rest)) (kf : y ≤ x → W p l e R s m args below meth c H locs cells slots Q (F0 m (pc + 3) ls rest)) : W p l e R s m args below meth c H locs cells slots Q (F0 m pc ls (.int (nI y) :: .int (nI x) :: rest)) :=
  lv_icmp_lt hx hb hdg ht (fun h => kt ((nI_ltI h1 h2).mp h)) (fun h => kf (Nat.not_lt.mp (fun q => h ((nI_ltI h1 h2).mpr q))))
theorem zn_gt (hx : p.tables.exec = Jvm.exec) (hb : c.code = cc) {x y : Nat} (h1 : x < 2 ^ 31) (h2 : y < 2 ^ 31) {off : Int} {tgt : Nat} (hdg : decode cc pc = .ok (.if_icmp .gt off, 3)) (ht : (pc : Int) + off = (tgt : Int)) (kt : y < x → W p l e R s m args below meth c H locs cells slots Q (F0 m tgt ls rest)) (kf : x ≤ y → W p l e R s m args below meth c H locs cells slots Q (F0 m (pc + 3) ls rest)) : W p l e R s m args below meth c H locs cells slots Q (F0 m pc ls (.int (nI y) :: .int (nI x) :: rest)) :=
  lv_icmp_gt hx hb hdg ht (fun h => kt ((nI_ltI h2 h1).mp h)) (fun h => kf (Nat.not_lt.mp (fun q => h ((nI_ltI h2 h1).mpr q))))
theorem zn_le (hx : p.tables.exec = Jvm.exec) (hb : c.code = cc) {x y : Nat} (h1 : x < 2 ^ 31) (h2 : y < 2 ^ 31) {off : Int} {tgt : Nat} (hdg : decode cc pc = .ok (.if_icmp .le off, 3)) (ht : (pc : Int) + off = (tgt : Int)) (kt : x ≤ y → W p l e R s m args below meth c H locs cells slots Q (F0 m tgt ls rest)) (kf : y < x → W p l e R s m args below meth c H locs cells slots Q (F0 m (pc + 3) ls rest)) : W p l e R s m args below meth c H locs cells slots Q (F0 m pc ls (.int (nI y) :: .int (nI x) :: rest)) :=
  lv_icmp_le hx hb hdg ht (fun h => kt ((nI_leI h1 h2).mp h)) (fun h => kf (Nat.not_le.mp (fun q => h ((nI_leI h1 h2).mpr q))))
theorem zz_eq (hx : p.tables.exec = Jvm.exec) (hb : c.code = cc) {B : Bool} {off : Int} {tgt : Nat} (hdg : decode cc pc = .ok (.ifCond .eq off, 3)) (ht : (pc : Int) + off = (tgt : Int)) (kt : B = false → W p l e R s m args below meth c H locs cells slots Q (F0 m tgt ls rest)) (kf : B = true → W p l e R s m args below meth c H locs cells slots Q (F0 m (pc + 3) ls rest)) : W p l e R s m args below meth c H locs cells slots Q (F0 m pc ls (.int (zb B) :: rest)) :=
  lv_if_eq hx hb hdg ht (fun h => kt (zb_eq0.mp h)) (fun h => kf (by cases B; exact absurd rfl h; rfl))
theorem zz_ne (hx : p.tables.exec = Jvm.exec) (hb : c.code = cc) {B : Bool} {off : Int} {tgt : Nat} (hdg : decode cc pc = .ok (.ifCond .ne off, 3)) (ht : (pc : Int) + off = (tgt : Int)) (kt : B = true → W p l e R s m args below meth c H locs cells slots Q (F0 m tgt ls rest)) (kf : B = false → W p l e R s m args below meth c H locs cells slots Q (F0 m (pc + 3) ls rest)) : W p l e R s m args below meth c H locs cells slots Q (F0 m pc ls (.int (zb B) :: rest)) :=
  lv_if_ne hx hb hdg ht (fun h => kt (by cases B; exact absurd rfl h; rfl)) (fun h => kf (zb_eq0.mp h))
theorem zn_eq0 (hx : p.tables.exec = Jvm.exec) (hb : c.code = cc) {x : Nat} (h1 : x < 2 ^ 31) {off : Int} {tgt : Nat} (hdg : decode cc pc = .ok (.ifCond .eq off, 3)) (ht : (pc : Int) + off = (tgt : Int)) (kt : x = 0 → W p l e R s m args below meth c H locs cells slots Q (F0 m tgt ls rest)) (kf : ¬ x = 0 → W p l e R s m args below meth c H locs cells slots Q (F0 m (pc + 3) ls rest)) : W p l e R s m args below meth c H locs cells slots Q (F0 m pc ls (.int (nI x) :: rest)) :=
  lv_if_eq hx hb hdg ht (fun h => kt ((nI_eq h1 (Nat.two_pow_pos 31)).mp h)) (fun h => kf (fun q => h ((nI_eq h1 (Nat.two_pow_pos 31)).mpr q)))
theorem zn_ne0 (hx : p.tables.exec = Jvm.exec) (hb : c.code = cc) {x : Nat} (h1 : x < 2 ^ 31) {off : Int} {tgt : Nat} (hdg : decode cc pc = .ok (.ifCond .ne off, 3)) (ht : (pc : Int) + off = (tgt : Int)) (kt : ¬ x = 0 → W p l e R s m args below meth c H locs cells slots Q (F0 m tgt ls rest)) (kf : x = 0 → W p l e R s m args below meth c H locs cells slots Q (F0 m (pc + 3) ls rest)) : W p l e R s m args below meth c H locs cells slots Q (F0 m pc ls (.int (nI x) :: rest)) :=
  lv_if_ne hx hb hdg ht (fun h => kt (fun q => h ((nI_eq h1 (Nat.two_pow_pos 31)).mpr q))) (fun h => kf ((nI_eq h1 (Nat.two_pow_pos 31)).mp h))
theorem zn_le0 (hx : p.tables.exec = Jvm.exec) (hb : c.code = cc) {x : Nat} (h1 : x < 2 ^ 31) {off : Int} {tgt : Nat} (hdg : decode cc pc = .ok (.ifCond .le off, 3)) (ht : (pc : Int) + off = (tgt : Int)) (kt : x = 0 → W p l e R s m args below meth c H locs cells slots Q (F0 m tgt ls rest)) (kf : ¬ x = 0 → W p l e R s m args below meth c H locs cells slots Q (F0 m (pc + 3) ls rest)) : W p l e R s m args below meth c H locs cells slots Q (F0 m pc ls (.int (nI x) :: rest)) :=
  lv_if_le hx hb hdg ht (fun h => kt (Nat.le_zero.mp ((nI_leI h1 (Nat.two_pow_pos 31)).mp h))) (fun h => kf (fun q => h ((nI_leI h1 (Nat.two_pow_pos 31)).mpr (Nat.le_zero.mpr q))))
-- steps on small numbers
theorem zn_add (hx : p.tables.exec = Jvm.exec) (hb : c.code = cc) {x y z : Nat} (hz : x + y = z) (hdg : decode cc pc = .ok (.iadd, 1)) (k : W p l e R s m args below meth c H locs cells slots Q (F0 m (pc + 1) ls (.int (nI z) :: rest))) : W p l e R s m args below meth c H locs cells slots Q (F0 m pc ls (.int (nI y) :: .int (nI x) :: rest)) :=
  t_iadd hx hb hdg (by rw [← hz]; exact nI_add x y) k
theorem zn_sub (hx : p.tables.exec = Jvm.exec) (hb : c.code = cc) {x y z : Nat} (hz : x = z + y) (hdg : decode cc pc = .ok (.isub, 1)) (k : W p l e R s m args below meth c H locs cells slots Q (F0 m (pc + 1) ls (.int (nI z) :: rest))) : W p l e R s m args below meth c H locs cells slots Q (F0 m pc ls (.int (nI y) :: .int (nI x) :: rest)) :=
  t_isub hx hb hdg (by rw [pk_sub (by omega), hz, Nat.add_sub_cancel]) k
theorem zn_mul (hx : p.tables.exec = Jvm.exec) (hb : c.code = cc) {x y z : Nat} (hz : x * y = z) (hdg : decode cc pc = .ok (.imul, 1)) (k : W p l e R s m args below meth c H locs cells slots Q (F0 m (pc + 1) ls (.int (nI z) :: rest))) : W p l e R s m args below meth c H locs cells slots Q (F0 m pc ls (.int (nI y) :: .int (nI x) :: rest)) :=
  t_imul hx hb hdg (by rw [← hz]; exact pk_mul x y) k
theorem zn_div (hx : p.tables.exec = Jvm.exec) (hb : c.code = cc) {x y z : Nat} (h1 : x < 2 ^ 31) (h0 : 0 < y) (h2 : y < 2 ^ 31) (hz : x / y = z) (hdg : decode cc pc = .ok (.idiv, 1)) (k : W p l e R s m args below meth c H locs cells slots Q (F0 m (pc + 1) ls (.int (nI z) :: rest))) : W p l e R s m args below meth c H locs cells slots Q (F0 m pc ls (.int (nI y) :: .int (nI x) :: rest)) :=
  lv_idiv hx hb hdg (nI_ne0 h0 h2) (by rw [pk_div h1 h0 h2, hz]; exact k)
theorem zn_rem (hx : p.tables.exec = Jvm.exec) (hb : c.code = cc) {x y z : Nat} (h1 : x < 2 ^ 31) (h0 : 0 < y) (h2 : y < 2 ^ 31) (hz : x % y = z) (hdg : decode cc pc = .ok (.irem, 1)) (k : W p l e R s m args below meth c H locs cells slots Q (F0 m (pc + 1) ls (.int (nI z) :: rest))) : W p l e R s m args below meth c H locs cells slots Q (F0 m pc ls (.int (nI y) :: .int (nI x) :: rest)) :=
  t_irem hx hb hdg (nI_ne0 h0 h2) (by rw [pk_rem h1 h0 h2, hz]) k
theorem zn_l {x : Int32} {n : Nat} (h : n = n) : nI n = nI n := rfl
-- calls
theorem zcr {y : MethodName} {b : ByteArray} {nY : Nat} {rt : Option FieldType} {fr lo n index ci q0 : Nat} {w : va_W} {As : List Value} {rv : Value} {q : Nat} {fs : List Value} {r : vw_C} {st0 : List Value} (S : CallFix p m c cc nL s args wAll own) (hM : zMr l y b nY rt fr lo D ca w (.ref q :: As) rv) (hl : Cond.methodLink own index y ∈ wAll) (hY : zY y b nY rt n) (him : Cond.instanceMethod y ∈ wAll) (hse : Cond.selects y.cls y y ∈ wAll)
    (hR : fr + 1 ≤ R.frames ∧ 8 + (nY + 11) + lo ≤ R.locals) (hK : zK D ca s) (hP : va_P D vwCl ws H) (is : List Nat) (hC : is.filterMap (fun i => ws[i]?) = w) (hq : w[q0]? = some (q, .inr (ci, fs))) (hc : vwCl[ci]? = some r) (hr : y.cls = r.1) (hn : As.length = n) (hsz : ls.size = nL) (hst : st0 = As.reverse ++ .ref q :: rest) (hroom : (rest.map fun v => v.category).sum ≤ 8) (hcs : cells ≤ R.cells ∧ slots ≤ R.slots) (hdg : decode cc pc = .ok (.invokevirtual index, 3))
    (kk : W p l e R s m args below meth c H locs cells slots Q (F0 m (pc + 3) ls (rv :: rest))) : W p l e R s m args below meth c H locs cells slots Q (F0 m pc ls st0) := by
  have hPc := hP.sub is hC
  have hcw : CallW R s args own y.cls index y b nY rt (Cond.code y b nY rt :: wAll) { frames := fr, cells := 0, slots := 0, locals := lo } 0 0 n := cwV n S.2.2.2.2 (zgood (fun w hw => by
    unfold wsV at hw
    rcases List.mem_append.mp hw with h | h
    · simp only [List.mem_cons, List.not_mem_nil, or_false] at h
      rcases h with h | h | h | h <;> rw [h]
      · exact hl
      · exact him
      · exact hse
      · exact hY.2.1
    · rcases List.mem_cons.mp h with h | h
      · rw [h]; exact hY.1
      · exact h)) rfl rfl rfl ⟨rfl, hY.2.2.1, hY.2.2.2.1, hY.2.2.2.2⟩ hR
  have hrun := va_runV (rest := rest) (g := F0 m pc ls st0) (H := H) (locs := locs) (cells := cells) (slots := slots) (below := below) (e := e) (meth := meth) S hM hcw ⟨zblind, hr ▸ va_recv hK hPc hc hq, fun U hU hW => ⟨rfl, by rw [hU]; exact hPc, va_K.moved hW.alike hK⟩⟩ rfl hn hsz hst (lv_room hroom) hdg ⟨by simpa using hcs.1, by simpa using hcs.2⟩
  intro T hT X
  obtain ⟨v, st₀, t, T', L, h0, X', hL, e1, -, ⟨hv, hh⟩, st⟩ := hrun T hT X
  cases hv
  obtain ⟨t2, a1, b1⟩ := kk T' (by rw [e1, hh, h0]) (Stand.forget X' (fun q h => (hL q h).elim))
  exact ⟨t2, st t2 a1, b1⟩
theorem zcrS {y : MethodName} {b : ByteArray} {nY : Nat} {rt : Option FieldType} {fr lo n index : Nat} {w : va_W} {As : List Value} {rv : Value} {st0 : List Value} (S : CallFix p m c cc nL s args wAll own) (hM : zMr l y b nY rt fr lo D ca w As rv) (hl : Cond.methodLink own index y ∈ wAll) (hY : zY y b nY rt n) (hstt : Cond.static y ∈ wAll)
    (hR : fr + 1 ≤ R.frames ∧ 8 + (nY + 11) + lo ≤ R.locals) (hK : zK D ca s) (hP : va_P D vwCl ws H) (is : List Nat) (hC : is.filterMap (fun i => ws[i]?) = w) (hn : As.length = n) (hsz : ls.size = nL) (hst : st0 = As.reverse ++ rest) (hroom : (rest.map fun v => v.category).sum ≤ 8) (hcs : cells ≤ R.cells ∧ slots ≤ R.slots) (hdg : decode cc pc = .ok (.invokestatic index, 3))
    (kk : W p l e R s m args below meth c H locs cells slots Q (F0 m (pc + 3) ls (rv :: rest))) : W p l e R s m args below meth c H locs cells slots Q (F0 m pc ls st0) := by
  have hPc := hP.sub is hC
  have hcw := va_cwS (R := R) (mc := 0) (ms := 0) (rm := { frames := fr, cells := 0, slots := 0, locals := lo }) (ws := Cond.code y b nY rt :: wAll) n S.2.2.2.2 (zgood (fun w hw => by
    unfold va_wsS at hw
    rcases List.mem_append.mp hw with h | h
    · simp only [List.mem_cons, List.not_mem_nil, or_false] at h
      rcases h with h | h | h <;> rw [h]
      · exact hl
      · exact hstt
      · exact hY.2.1
    · rcases List.mem_cons.mp h with h | h
      · rw [h]; exact hY.1
      · exact h)) rfl rfl rfl ⟨hY.2.2.1, hY.2.2.2.1, hY.2.2.2.2⟩ hR
  have hrun := va_runS (rest := rest) (g := F0 m pc ls st0) (H := H) (locs := locs) (cells := cells) (slots := slots) (below := below) (e := e) (meth := meth) S hM hcw ⟨zblind, fun U hU hW => ⟨rfl, by rw [hU]; exact hPc, va_K.moved hW.alike hK⟩⟩ rfl hn hsz hst (lv_room hroom) hdg ⟨by simpa using hcs.1, by simpa using hcs.2⟩
  intro T hT X
  obtain ⟨v, st₀, t, T', L, h0, X', hL, e1, -, ⟨hv, hh⟩, st⟩ := hrun T hT X
  cases hv
  obtain ⟨t2, a1, b1⟩ := kk T' (by rw [e1, hh, h0]) (Stand.forget X' (fun q h => (hL q h).elim))
  exact ⟨t2, st t2 a1, b1⟩
theorem zcw {y : MethodName} {b : ByteArray} {nY : Nat} {rt : Option FieldType} {fr lo n index ci q0 : Nat} {lw : List Nat} {w w' : va_W} {As : List Value} {rv : Option Value} {q : Nat} {fs : List Value} {r : vw_C} {st0 st1 : List Value} (S : CallFix p m c cc nL s args wAll own) (hM : zMw l y b nY rt fr lo D ca w w' (.ref q :: As) rv) (hl : Cond.methodLink own index y ∈ wAll) (hY : zY y b nY rt n) (him : Cond.instanceMethod y ∈ wAll) (hse : Cond.selects y.cls y y ∈ wAll)
    (hR : fr + 1 ≤ R.frames ∧ 8 + (nY + 11) + lo ≤ R.locals) (hK : zK D ca s) (hP : va_P D vwCl ws H) (hD : va_D A ws) (hS : va_S A H0 H locs) (is : List Nat) (hC : is.map (fun i => ws[i]?) = w.map some) (hf1 : w.map Prod.fst = lw) (hf2 : w'.map Prod.fst = lw) (hq : w[q0]? = some (q, .inr (ci, fs))) (hc : vwCl[ci]? = some r) (hr : y.cls = r.1) (hn : As.length = n) (hsz : ls.size = nL) (hst : st0 = As.reverse ++ .ref q :: rest) (hst1 : rv.toList ++ rest = st1) (hroom : (rest.map fun v => v.category).sum ≤ 8) (hcs : cells ≤ R.cells ∧ slots ≤ R.slots) (hdg : decode cc pc = .ok (.invokevirtual index, 3))
    (kk : ∀ (H1 : Heap) (locs1 : List Loc), va_P D vwCl (zset ws is w') H1 → va_S A H0 H1 locs1 → W p l e R s m args below meth c H1 locs1 cells slots Q (F0 m (pc + 3) ls st1)) : W p l e R s m args below meth c H locs cells slots Q (F0 m pc ls st0) := by
  subst hst1
  have hf : w'.map Prod.fst = w.map Prod.fst := hf2.trans hf1.symm
  have hCf : is.filterMap (fun i => ws[i]?) = w := by
    have h1 : (is.map (fun i => ws[i]?)).filterMap id = (w.map some).filterMap id := by rw [hC]
    rw [List.filterMap_map, List.filterMap_map] at h1
    simpa [Function.comp_def] using h1
  have hPc := hP.sub is hCf
  have hcw : CallW R s args own y.cls index y b nY rt (Cond.code y b nY rt :: wAll) { frames := fr, cells := 0, slots := 0, locals := lo } 0 0 n := cwV n S.2.2.2.2 (zgood (fun w hw => by
    unfold wsV at hw
    rcases List.mem_append.mp hw with h | h
    · simp only [List.mem_cons, List.not_mem_nil, or_false] at h
      rcases h with h | h | h | h <;> rw [h]
      · exact hl
      · exact him
      · exact hse
      · exact hY.2.1
    · rcases List.mem_cons.mp h with h | h
      · rw [h]; exact hY.1
      · exact h)) rfl rfl rfl ⟨rfl, hY.2.2.1, hY.2.2.2.1, hY.2.2.2.2⟩ hR
  have hrun := va_runV (rest := rest) (g := F0 m pc ls st0) (H := H) (locs := locs) (cells := cells) (slots := slots) (below := below) (e := e) (meth := meth) S hM hcw ⟨zblind, hr ▸ va_recv hK hPc hc hq, fun U hU hW => ⟨rfl, by rw [hU]; exact hPc, va_K.moved hW.alike hK⟩⟩ rfl hn hsz hst (lv_room hroom) hdg ⟨by simpa using hcs.1, by simpa using hcs.2⟩
  have hsub : ∀ q ∈ w.map Prod.fst, A q := by
    intro q h
    obtain ⟨x, hx, rfl⟩ := List.mem_map.mp h
    rw [← hCf] at hx
    obtain ⟨i, -, hi⟩ := List.mem_filterMap.mp hx
    exact hD.2 i x hi
  intro T hT X
  obtain ⟨v, st₀, t, T', L, h0, X', hL, e1, -, ⟨hv, hp1, hz, hk⟩, st⟩ := hrun T hT X
  cases hv
  rw [h0] at hz hk
  have hk' : ∀ q : Nat, q < H.size → ¬ zA (w.map Prod.fst) q → T'.heap[q]? = H[q]? := fun q h1 h2 => by rw [e1]; exact hk q h1 h2
  obtain ⟨t2, a1, b1⟩ := kk T'.heap (locs ++ L) (zback hP hD hC hf hk' (by rw [e1]; exact hp1)) ⟨Nat.le_trans hS.1 (by rw [e1]; exact hz), fun q h1 h2 => by rw [hk' q (Nat.lt_of_lt_of_le h1 hS.1) (fun z => h2 (hsub q z))]; exact hS.2.1 q h1 h2, fun q hq => by
      rcases List.mem_append.mp hq with h | h
      · exact hS.2.2 q h
      · exact hsub _ (hL q h)⟩ T' rfl X'
  exact ⟨t2, st t2 a1, b1⟩
end ZK
