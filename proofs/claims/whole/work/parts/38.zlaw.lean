/-! rows of the law: its own small methods, called -/
def zYW (y : MethodName) (b : ByteArray) (nY : Nat) (hh : List (Nat × Nat × Nat × Nat)) (n : Nat) : Prop :=
  Cond.codeWith y b nY (some .int) hh ∈ wAll ∧ Cond.initialized y.cls ∈ wAll ∧ y.cls ≠ "java/lang/invoke/MethodHandle" ∧ y.cls ≠ "java/lang/invoke/VarHandle" ∧ (parseMethodDescriptor y.desc).map (fun d => d.parameters.length) = some n
section ZLW
variable {p : Program} {l : Launch} {e : Env} {R : Room} {s : State} {m : MethodId} {args : Array Value} {below : List Frame} {meth : Method} {c : Code} {H : Heap} {locs : List Loc} {cells slots : Nat} {Q : State → Prop}
variable {cc : ByteArray} {nL : Nat} {own : String} {pc : Nat} {ls : Array Slot} {rest : List Value} {D : va_G} {ca : Nat → ClassId} {ws : va_W} {A : Nat → Prop} {H0 : Heap}
/-- behind a call that wrote in 'w': the world, what it left alone -/
theorem zcl_end {w w' : va_W} {is : List Nat} {mc ms : Nat} {rv : Value} {lw : List Nat} {st0 : List Value} {a9 : Array Value}
    (hrun : va_Run p l e R s m args below meth c H locs cells slots mc ms (F0 m pc ls st0) rest (zQw D (w.map Prod.fst) w' (some rv) a9) (zA (w.map Prod.fst)))
    (hP : va_P D vwCl ws H) (hD : va_D A ws) (hS : va_S A H0 H locs) (hC : is.map (fun i => ws[i]?) = w.map some) (hf1 : w.map Prod.fst = lw) (hf2 : w'.map Prod.fst = lw)
    (kk : ∀ (H1 : Heap) (locs1 : List Loc), va_P D vwCl (zset ws is w') H1 → va_S A H0 H1 locs1 → H.size ≤ H1.size → (∀ q : Nat, q < H.size → ¬ zA lw q → H1[q]? = H[q]?) → W p l e R s m args below meth c H1 locs1 (cells + mc) (slots + ms) Q (F0 m (pc + 3) ls (rv :: rest))) : W p l e R s m args below meth c H locs cells slots Q (F0 m pc ls st0) := by
  have hf : w'.map Prod.fst = w.map Prod.fst := hf2.trans hf1.symm
  have hCf : is.filterMap (fun i => ws[i]?) = w := by
    have h1 : (is.map (fun i => ws[i]?)).filterMap id = (w.map some).filterMap id := by rw [hC]
    rw [List.filterMap_map, List.filterMap_map] at h1
    simpa [Function.comp_def] using h1
  have hsub : ∀ q ∈ w.map Prod.fst, A q := by
    intro q h
    obtain ⟨x, hx, rfl⟩ := List.mem_map.mp h
    rw [← hCf] at hx
    obtain ⟨i, -, hi⟩ := List.mem_filterMap.mp hx
    exact hD.2 i x hi
  intro T hT X
  obtain ⟨v, st₀, t, T', L, h0, X', hL, e1, -, ⟨hv, hp1, hz, hk⟩, st⟩ := hrun T hT X
  cases hv
  rw [h0] at hz hk
  have hk' : ∀ q : Nat, q < H.size → ¬ zA (w.map Prod.fst) q → T'.heap[q]? = H[q]? := fun q h1 h2 => by rw [e1]; exact hk q h1 h2
  obtain ⟨t2, a1, b1⟩ := kk T'.heap (locs ++ L) (zback hP hD hC hf hk' (by rw [e1]; exact hp1)) ⟨Nat.le_trans hS.1 (by rw [e1]; exact hz), fun q h1 h2 => by rw [hk' q (Nat.lt_of_lt_of_le h1 hS.1) (fun z => h2 (hsub q z))]; exact hS.2.1 q h1 h2, fun q hq => by
      rcases List.mem_append.mp hq with h | h
      · exact hS.2.2 q h
      · exact hsub _ (hL q h)⟩ (by rw [e1]; exact hz) (by rw [← hf1]; exact hk') T' rfl X'
  exact ⟨t2, st t2 a1, b1⟩
theorem zcl_words {y : MethodName} {b : ByteArray} {nY : Nat} {hh : List (Nat × Nat × Nat × Nat)} {n index : Nat} (hl : Cond.methodLink own index y ∈ wAll) (hY : zYW y b nY hh n) (hstt : Cond.static y ∈ wAll) : GoodIn wAll (va_wsS own index y (Cond.codeWith y b nY (some .int) hh :: wAll)) := zgood (fun w hw => by
    unfold va_wsS at hw
    rcases List.mem_append.mp hw with h | h
    · simp only [List.mem_cons, List.not_mem_nil, or_false] at h
      rcases h with h | h | h <;> rw [h]
      · exact hl
      · exact hstt
      · exact hY.2.1
    · rcases List.mem_cons.mp h with h | h
      · rw [h]; exact hY.1
      · exact h)
theorem zcl {y : MethodName} {b : ByteArray} {nY : Nat} {hh : List (Nat × Nat × Nat × Nat)} {fr lo n index : Nat} {lw : List Nat} {w w' : va_W} {As : List Value} {rv : Value} {st0 : List Value} (S : CallFix p m c cc nL s args wAll own) (hM : zMl l y b nY hh fr lo D ca w w' As rv) (hl : Cond.methodLink own index y ∈ wAll) (hY : zYW y b nY hh n) (hstt : Cond.static y ∈ wAll)
    (hR : fr + 1 ≤ R.frames ∧ 8 + (nY + 11) + lo ≤ R.locals) (hK : zK D ca s) (hP : va_P D vwCl ws H) (hD : va_D A ws) (hS : va_S A H0 H locs) (is : List Nat) (hC : is.map (fun i => ws[i]?) = w.map some) (hf1 : w.map Prod.fst = lw) (hf2 : w'.map Prod.fst = lw) (hn : As.length = n) (hsz : ls.size = nL) (hst : st0 = As.reverse ++ rest) (hroom : (rest.map fun v => v.category).sum ≤ 8) (hcs : cells ≤ R.cells ∧ slots ≤ R.slots) (hdg : decode cc pc = .ok (.invokestatic index, 3))
    (kk : ∀ (H1 : Heap) (locs1 : List Loc), va_P D vwCl (zset ws is w') H1 → va_S A H0 H1 locs1 → H.size ≤ H1.size → (∀ q : Nat, q < H.size → ¬ zA lw q → H1[q]? = H[q]?) → W p l e R s m args below meth c H1 locs1 (cells + 0) (slots + 0) Q (F0 m (pc + 3) ls (rv :: rest))) : W p l e R s m args below meth c H locs cells slots Q (F0 m pc ls st0) := by
  have hCf : is.filterMap (fun i => ws[i]?) = w := by
    have h1 : (is.map (fun i => ws[i]?)).filterMap id = (w.map some).filterMap id := by rw [hC]
    rw [List.filterMap_map, List.filterMap_map] at h1
    simpa [Function.comp_def] using h1
  have hPc := hP.sub is hCf
  have hcw := vx_cwSW (R := R) (mc := 0) (ms := 0) (rm := { frames := fr, cells := 0, slots := 0, locals := lo }) (ws := Cond.codeWith y b nY (some .int) hh :: wAll) n S.2.2.2.2 (zcl_words hl hY hstt) rfl rfl rfl ⟨hY.2.2.1, hY.2.2.2.1, hY.2.2.2.2⟩ hR
  exact zcl_end (vx_runSW (rest := rest) (g := F0 m pc ls st0) (H := H) (locs := locs) (cells := cells) (slots := slots) S hM hcw ⟨zblind, fun U hU hW => ⟨rfl, by rw [hU]; exact hPc, va_K.moved hW.alike hK⟩⟩ rfl hn hsz hst (lv_room hroom) hdg ⟨by simpa using hcs.1, by simpa using hcs.2⟩) hP hD hS hC hf1 hf2 kk
theorem zclx {y : MethodName} {b : ByteArray} {nY : Nat} {hh : List (Nat × Nat × Nat × Nat)} {fr lo n index : Nat} {lw : List Nat} {w w' : va_W} {As : List Value} {rv : Value} {st0 : List Value} {X tx : String} {k : Nat} (S : CallFix p m c cc nL s args wAll own) (hM : zMlx l y b nY hh fr lo D ca w w' As rv X k tx) (hl : Cond.methodLink own index y ∈ wAll) (hY : zYW y b nY hh n) (hstt : Cond.static y ∈ wAll)
    (hR : fr + 1 ≤ R.frames ∧ 8 + (nY + 11) + lo ≤ R.locals) (hK : zK D ca s) (hXw : zXw X s) (hXs : zXs k tx s) (hNc : zNcs X s) (hXt : zXt A s H) (hP : va_P D vwCl ws H) (hD : va_D A ws) (hS : va_S A H0 H locs) (is : List Nat) (hC : is.map (fun i => ws[i]?) = w.map some) (hf1 : w.map Prod.fst = lw) (hf2 : w'.map Prod.fst = lw) (hn : As.length = n) (hsz : ls.size = nL) (hst : st0 = As.reverse ++ rest) (hroom : (rest.map fun v => v.category).sum ≤ 8) (hcs : cells + 1 ≤ R.cells ∧ slots + 6 ≤ R.slots) (hdg : decode cc pc = .ok (.invokestatic index, 3))
    (kk : ∀ (H1 : Heap) (locs1 : List Loc), va_P D vwCl (zset ws is w') H1 → va_S A H0 H1 locs1 → H.size ≤ H1.size → (∀ q : Nat, q < H.size → ¬ zA lw q → H1[q]? = H[q]?) → W p l e R s m args below meth c H1 locs1 (cells + 1) (slots + 6) Q (F0 m (pc + 3) ls (rv :: rest))) : W p l e R s m args below meth c H locs cells slots Q (F0 m pc ls st0) := by
  have hCf : is.filterMap (fun i => ws[i]?) = w := by
    have h1 : (is.map (fun i => ws[i]?)).filterMap id = (w.map some).filterMap id := by rw [hC]
    rw [List.filterMap_map, List.filterMap_map] at h1
    simpa [Function.comp_def] using h1
  have hPc := hP.sub is hCf
  have hsub : ∀ q, zA (w.map Prod.fst) q → A q := by
    intro q h
    obtain ⟨x, hx, rfl⟩ := List.mem_map.mp h
    rw [← hCf] at hx
    obtain ⟨i, -, hi⟩ := List.mem_filterMap.mp hx
    exact hD.2 i x hi
  obtain ⟨sa, h4⟩ := hXs
  have hcw := vx_cwSW (R := R) (mc := 1) (ms := 6) (rm := { frames := fr, cells := 1, slots := 6, locals := lo }) (ws := Cond.codeWith y b nY (some .int) hh :: wAll) n S.2.2.2.2 (zcl_words hl hY hstt) rfl rfl rfl ⟨hY.2.2.1, hY.2.2.2.1, hY.2.2.2.2⟩ hR
  exact zcl_end (vx_runSW (rest := rest) (g := F0 m pc ls st0) (H := H) (locs := locs) (cells := cells) (slots := slots) S hM hcw ⟨zXblind2, fun U hU hW => ⟨rfl, ⟨by rw [hU]; exact hPc, va_K.moved hW.alike hK, hXw.warm hW, ⟨sa, vk_R.warm hW h4⟩, by rw [hU]; exact vx_Zq.moved hW.alike (hXt.1.narrow hsub), by rw [hU]; exact vx_Zq.moved hW.alike (hXt.2.narrow hsub)⟩, hNc.moved hW.alike⟩⟩ rfl hn hsz hst (lv_room hroom) hdg hcs) hP hD hS hC hf1 hf2 kk
theorem zXt.kept {H1 : Heap} (h : zXt A s H) (hq : ∀ a : Nat, a < H.size → ¬ A a → H1[a]? = H[a]?) : zXt A s H1 := ⟨h.1.kept hq, h.2.kept hq⟩
end ZLW
