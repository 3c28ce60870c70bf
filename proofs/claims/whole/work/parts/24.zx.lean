/-! methods that throw one of three exceptions, made on the spot: the words, the contract, the row -/
def zXn : List String := ["java/lang/RuntimeException", "java/lang/Exception"]
def zXB (X : String) : List Cond := [.castable X X, .declares (Bundle.initS "java/lang/RuntimeException"), .declares (Bundle.initS "java/lang/Exception"), .declares (Bundle.initS Bundle.tN)]
def xIA : String := "java/lang/IllegalArgumentException"
theorem xg_IA : ∀ w ∈ (vx_atS RX6 38 xIA zXn).filter goodWord, w ∈ wAll := by
  have hp : (vx_atS RX6 38 xIA zXn).filter goodWord = ([74, 485, 494, 498, 501, 503, 486, 487, 89, 90, 488, 493, 499, 519, 475, 520, 477, 521, 479, 489, 491, 481, 515, 516, 518, 481, 506, 507, 508, 509, 509, 510, 511, 512, 512, 513, 514, 515, 505, 464, 472, 473, 474, 476, 478, 480, 484, 483, 482] : List Nat).filterMap (fun i => lw_tbl[i]?) := by decide +kernel
  intro w hw
  have hg := (List.mem_filter.mp hw).2
  rw [hp] at hw
  obtain ⟨i, -, hi⟩ := List.mem_filterMap.mp hw
  exact List.mem_filter.mpr ⟨List.mem_of_getElem? hi, hg⟩
theorem xb_IA : ∀ w ∈ (vx_atS RX6 38 xIA zXn).filter (fun w => !goodWord w), w ∈ zXB xIA := by
  have h : ((vx_atS RX6 38 xIA zXn).filter (fun w => !goodWord w)).all (fun w => decide (w ∈ zXB xIA)) = true := by decide +kernel
  exact fun w hw => of_decide_eq_true (List.all_eq_true.mp h w hw)
theorem xo_IA : ∀ w ∈ Cond.classLink RX6 34 xIA :: Cond.initialized xIA :: vx_atS RX6 38 xIA zXn, vx_ot w = true := List.all_eq_true.mp (by decide +kernel)
def xIS : String := "java/lang/IllegalStateException"
theorem xg_IS : ∀ w ∈ (vx_atS RX6 55 xIS zXn).filter goodWord, w ∈ wAll := by
  have hp : (vx_atS RX6 55 xIS zXn).filter goodWord = ([74, 485, 494, 498, 501, 503, 486, 487, 89, 90, 488, 493, 499, 519, 475, 520, 477, 521, 479, 489, 491, 481, 515, 516, 518, 481, 550, 551, 552, 509, 509, 510, 511, 512, 512, 513, 514, 515, 549, 540, 542, 496, 543, 544, 545, 546, 484, 483, 547] : List Nat).filterMap (fun i => lw_tbl[i]?) := by decide +kernel
  intro w hw
  have hg := (List.mem_filter.mp hw).2
  rw [hp] at hw
  obtain ⟨i, -, hi⟩ := List.mem_filterMap.mp hw
  exact List.mem_filter.mpr ⟨List.mem_of_getElem? hi, hg⟩
theorem xb_IS : ∀ w ∈ (vx_atS RX6 55 xIS zXn).filter (fun w => !goodWord w), w ∈ zXB xIS := by
  have h : ((vx_atS RX6 55 xIS zXn).filter (fun w => !goodWord w)).all (fun w => decide (w ∈ zXB xIS)) = true := by decide +kernel
  exact fun w hw => of_decide_eq_true (List.all_eq_true.mp h w hw)
theorem xo_IS : ∀ w ∈ Cond.classLink RX6 51 xIS :: Cond.initialized xIS :: vx_atS RX6 55 xIS zXn, vx_ot w = true := List.all_eq_true.mp (by decide +kernel)
def xIO : String := "java/lang/IndexOutOfBoundsException"
theorem xg_IO : ∀ w ∈ (vx_atS RX6 68 xIO zXn).filter goodWord, w ∈ wAll := by
  have hp : (vx_atS RX6 68 xIO zXn).filter goodWord = ([74, 485, 494, 498, 501, 503, 486, 487, 89, 90, 488, 493, 499, 519, 475, 520, 477, 521, 479, 489, 491, 481, 515, 516, 518, 481, 582, 583, 584, 509, 509, 510, 511, 512, 512, 513, 514, 515, 581, 572, 574, 497, 575, 576, 577, 578, 484, 483, 579] : List Nat).filterMap (fun i => lw_tbl[i]?) := by decide +kernel
  intro w hw
  have hg := (List.mem_filter.mp hw).2
  rw [hp] at hw
  obtain ⟨i, -, hi⟩ := List.mem_filterMap.mp hw
  exact List.mem_filter.mpr ⟨List.mem_of_getElem? hi, hg⟩
theorem xb_IO : ∀ w ∈ (vx_atS RX6 68 xIO zXn).filter (fun w => !goodWord w), w ∈ zXB xIO := by
  have h : ((vx_atS RX6 68 xIO zXn).filter (fun w => !goodWord w)).all (fun w => decide (w ∈ zXB xIO)) = true := by decide +kernel
  exact fun w hw => of_decide_eq_true (List.all_eq_true.mp h w hw)
theorem xo_IO : ∀ w ∈ Cond.classLink RX6 64 xIO :: Cond.initialized xIO :: vx_atS RX6 68 xIO zXn, vx_ot w = true := List.all_eq_true.mp (by decide +kernel)
def zXw (X : String) (U : State) : Prop := va_Nw (.castable X X) U ∧ va_Nw (.declares (Bundle.initS "java/lang/RuntimeException")) U ∧ va_Nw (.declares (Bundle.initS "java/lang/Exception")) U ∧ va_Nw (.declares (Bundle.initS Bundle.tN)) U
theorem zXw.warm {X : String} {s U : State} (hW : s.WarmedH U.vm) (h : zXw X s) : zXw X U := ⟨va_Nw.warmC hW h.1, va_Nw.warmD hW h.2.1, va_Nw.warmD hW h.2.2.1, va_Nw.warmD hW h.2.2.2⟩
theorem zXw.words {X : String} {s : State} {args : Array Value} (h : zXw X s) : ∀ w ∈ zXB X, w.before args s = true := vx_c (va_Nw.use rfl h.1) (vx_c (va_Nw.use rfl h.2.1) (vx_c (va_Nw.use rfl h.2.2.1) (vx_c (va_Nw.use rfl h.2.2.2) vx_n)))
/-- what a throw stands on, beside the method's own words: the text's constant, two statics of Throwable -/
def zXs (k : Nat) (tx : String) (U : State) : Prop := ∃ sa, vk_R RX6 k tx sa U
def zXt (A : Nat → Prop) (U : State) (H : Heap) : Prop := vx_Zq Bundle.tN "UNASSIGNED_STACK" Bundle.steD A U H ∧ vx_Zq Bundle.tN "SUPPRESSED_SENTINEL" Bundle.listD A U H
def zXP (D : va_G) (ca : Nat → ClassId) (w : va_W) (X : String) (k : Nat) (tx : String) (U : State) : Prop := va_P D vwCl w U.heap ∧ zK D ca U ∧ zXw X U ∧ zXs k tx U ∧ zXt (zA (w.map Prod.fst)) U U.heap
def zXC (D : va_G) (l : List Nat) (w' : va_W) (X : String) : String → State → State → Prop := fun E st t => E = X ∧ va_P D vwCl w' t.heap ∧ va_F (zA l) st t
def zQn : Array Value → State → Outcome → State → Prop := fun _ _ _ _ => False
def zMx (l : Launch) (y : MethodName) (b : ByteArray) (nY : Nat) (rt : Option FieldType) (fr lo : Nat) (D : va_G) (ca : Nat → ClassId) (w w' : va_W) (As : List Value) (X : String) (k : Nat) (tx : String) : Prop :=
  vx_Met l y (Cond.code y b nY rt :: wAll) { frames := fr, cells := 1, slots := 6, locals := lo } (va_Pc As (zXP D ca w X k tx)) zQn (zXC D (w.map Prod.fst) w' X) 1 6 (zA (w.map Prod.fst))
theorem zXblind {D : va_G} {ca : Nat → ClassId} {w : va_W} {As : List Value} {X : String} {k : Nat} {tx : String} : FrameBlind (va_Pc As (zXP D ca w X k tx)) := fun a U g mk q => by
  obtain ⟨q0, q1, q2, q3, ⟨sa, q4⟩, q5, q6⟩ := q
  exact ⟨q0, q1, va_K.moved (u := U) (U := U.calling g mk a) (Vm.Alike.refl U.vm) q2, ⟨va_Nw.same (u := U) rfl rfl q3.1, va_Nw.same (u := U) rfl rfl q3.2.1, va_Nw.same (u := U) rfl rfl q3.2.2.1, va_Nw.same (u := U) rfl rfl q3.2.2.2⟩, ⟨sa, vk_R.same (u := U) rfl q4⟩, vx_Zq.moved (u := U) (U := U.calling g mk a) (Vm.Alike.refl U.vm) q5, vx_Zq.moved (u := U) (U := U.calling g mk a) (Vm.Alike.refl U.vm) q6⟩
theorem zMx_of {l : Launch} {D : va_G} {ca : Nat → ClassId} {own : String} {y : MethodName} {b : ByteArray} {nY : Nat} {rt : Option FieldType} {fr lo : Nat} {w w' : va_W} {As : List Value} {X : String} {k : Nat} {tx : String} (hy : plainName y.cls = true) (ho : y.cls = own) (hlen : (lg_sl As).length ≤ nY)
    (body : ∀ (p : Program) (e : Env) (s : State) (m : MethodId) (args : Array Value) (below : List Frame) (meth : Method) (c : Code) (ls : Array Slot), CallFix p m c b nY s args wAll own → ls.size = nY → meth.locks = false → (∀ x ∈ c.exceptionTable.toList, False) → zXP D ca w X k tx s → va_P D vwCl w s.heap → zK D ca s → lv_has ls nY (lv_args 0 As) → va_S (zA (w.map Prod.fst)) s.heap s.heap [] →
      W p l e { frames := fr, cells := 1, slots := 6, locals := lo } s m args below meth c s.heap [] 0 0 (vx_MQ below zQn (zXC D (w.map Prod.fst) w' X) args s 1 6 (zA (w.map Prod.fst))) (F0 m 0 ls [])) : zMx l y b nY rt fr lo D ca w w' As X k tx := by
  refine vx_ofW (cc := b) (maxL := nY) (ret := rt) hy rfl ?_
  intro p e s m args below meth c s₁ B hml ht hv
  obtain ⟨rfl, hP⟩ := hv
  have hl := lv_entry As (n := nY) hlen
  rw [lg_entry_eq]
  have hts := atoms_spec (ws := Cond.code y b nY rt :: wAll) B.pre
  exact body p e s m _ below meth c _ ⟨B.exec, B.bytes, hml, ho ▸ findClass_of_methodNamed B.named, fun w h => hts w (List.mem_cons_of_mem _ h)⟩ hl.1 B.notSynchronized ht hP hP.1 hP.2.1 hl va_S.rf
section ZX
variable {p : Program} {l : Launch} {e : Env} {R : Room} {s : State} {m : MethodId} {args : Array Value} {below : List Frame} {meth : Method} {c : Code} {H : Heap} {locs : List Loc}
variable {cc : ByteArray} {nL : Nat} {pc : Nat} {ls : Array Slot} {rest : List Value} {D : va_G} {ca : Nat → ClassId} {w ws : va_W}
theorem zx_throw {X tx : String} {k ik ic : Nat} {A : List Nat} (hlt : l.stackTraces = false) (S : CallFix p m c cc nL s args wAll RX6) (hsz : ls.size = nL) (hlk : meth.locks = false) (ht : ∀ x ∈ c.exceptionTable.toList, False) (hX : zXP D ca w X k tx s) (hw : w.map Prod.fst = A) (hP : va_P D vwCl ws H) (hS : va_S (zA A) s.heap H locs)
    (hf : Bundle.fit X = true) (hcl : Cond.classLink RX6 ik X ∈ wAll) (hin : Cond.initialized X ∈ wAll) (hg : ∀ w ∈ (vx_atS RX6 ic X zXn).filter goodWord, w ∈ wAll) (hb : ∀ w ∈ (vx_atS RX6 ic X zXn).filter (fun w => !goodWord w), w ∈ zXB X) (ho : ∀ w ∈ Cond.classLink RX6 ik X :: Cond.initialized X :: vx_atS RX6 ic X zXn, vx_ot w = true)
    (hR : 5 < R.frames ∧ 82 ≤ R.locals ∧ 1 ≤ R.cells ∧ 6 ≤ R.slots)
    (d0 : decode cc pc = .ok (.new ik, 3)) (d3 : decode cc (pc + 3) = .ok (.dup, 1)) (d4 : decode cc (pc + 4) = .ok (.ldc k, 2)) (d6 : decode cc (pc + 6) = .ok (.invokespecial ic, 3)) (d9 : decode cc (pc + 9) = .ok (.athrow, 1)) :
    W p l e R s m args below meth c H locs 0 0 (vx_MQ below zQn (zXC D A ws X) args s 1 6 (zA A)) (F0 m pc ls []) := by
  subst hw
  obtain ⟨-, -, h3, ⟨sa, h4⟩, h5, h6⟩ := hX
  refine vx_throwS (own := RX6) (cls := X) (text := tx) (names := zXn) (ik := ik) (ic := ic) (is := k) (sa := sa) (A := zA (w.map Prod.fst)) S.1 S.2.1 hlt S.2.2.2.1 hf (by intro n hn; revert n; exact List.forall_mem_cons.mpr ⟨by decide, List.forall_mem_cons.mpr ⟨by decide, fun _ h => nomatch h⟩⟩)
    (S.2.2.2.2 _ hcl) (S.2.2.2.2 _ hin) h4 (vx_hat (fun w hw => S.2.2.2.2 w (hg w hw)) hb h3.words) ho h5 h6 hS (hsz.trans S.2.2.1.symm) d0 d3 d4 d6 d9 (fun x hx => (ht x hx).elim) hR.1 hR.2.1 (by have := hR.2.2.1; omega) (by have := hR.2.2.2; omega) hlk ?_ (fun z hz => hS.2.2 z hz) (Nat.le_refl _) (Nat.le_refl _)
  intro t _ h1 h2
  refine ⟨rfl, hP.kept (fun k x hx => h2 _ ((hP k x hx).lt)), Nat.le_trans hS.1 h1, fun q hq hA => ?_⟩
  rw [h2 q (Nat.lt_of_lt_of_le hq hS.1)]
  exact hS.2.1 q hq hA
theorem z_i2c {q : Nat} (hq : q < 65536) : ((nI q).toUInt32 % 65536).toInt32 = nI q := by
  apply Int32.toBitVec_inj.mp
  apply BitVec.eq_of_toNat_eq
  show ((nI q).toUInt32 % 65536).toNat = q % 2 ^ 32
  rw [UInt32.toNat_mod, show (nI q).toUInt32.toNat = q % 2 ^ 32 from rfl, show (65536 : UInt32).toNat = 65536 from rfl]
  omega
end ZX
