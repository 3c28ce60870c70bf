/-! Askers, Tally, State, Text: what they tell and do, as functions -/
abbrev zAk : Type := (Nat → Int32) × (Nat → Int32)
abbrev zTl : Type := (Nat → Int32) × Int32 × Int32
abbrev zSt : Type := zTb × zAk × zTl
def zhz (sn : Nat → Int32) (o : Int32) : Nat → Nat → Int32 → Int32
  | 0, _, x => x
  | f + 1, k, x => if nI k = o then zhz sn o f (k + 1) x else if sn k = -1 then zhz sn o f (k + 1) x else if x ≤ sn k then zhz sn o f (k + 1) x else zhz sn o f (k + 1) (sn k)
def zHw (sn : Nat → Int32) (o ck : Int32) : Int32 := zhz sn o 4 0 ck
def zHor (S : zSt) : Int32 := zHw S.2.1.1 (-1) S.1.2.2.2.2.1
def zTly (Y : zTl) (w : Nat) (x : Int32) (b : Bool) : zTl := (upd Y.1 w (Y.1 w + 1), if w = 2 then (if b then Y.2.1 + 1 else Y.2.1) else Y.2.1, Y.2.2 + x)
def zMake (S : zSt) (q p d : Nat) : Bool × zSt :=
  if q = 43 then (decide (¬ (zPut S.1 (nI d)).1 = -1), (zPut S.1 (nI d)).2, S.2)
  else if q = 45 then ((zTake S.1 p).1, (zTake S.1 p).2, S.2)
  else if q = 61 then (decide (¬ (zChg S.1 p (nI d)).1 = -1), (zChg S.1 p (nI d)).2, S.2)
  else (true, (zSweep S.1 d (zHor S)).2, S.2)
-- the buffer: its signs g, its length n; the reader: at, kind, place, digit
def zSg (g : Nat → Nat) (n i : Nat) : Nat := if i < n then g i else 0
theorem zSg_lt {g : Nat → Nat} {n i : Nat} (hg : ∀ k, g k < 128) : zSg g n i < 128 := by unfold zSg; split; exact hg i; omega
theorem zSg_in {g : Nat → Nat} {n i : Nat} (h : ¬ zSg g n i = 0) : i < n := by
  unfold zSg at h; split at h
  · assumption
  · exact absurd rfl h
def zDh (g : Nat → Nat) (n i : Nat) : Nat := if zSg g n i < 48 then 10 else if 57 < zSg g n i then 10 else zSg g n i - 48
theorem zDh_in {g : Nat → Nat} {n i : Nat} (h : zDh g n i < 10) : i < n := zSg_in (fun e => by unfold zDh at h; rw [e] at h; simp at h)
theorem zDh_no1 {g : Nat → Nat} {n i : Nat} (h : zSg g n i < 48) : zDh g n i = 10 := by unfold zDh; rw [if_pos h]
theorem zDh_no2 {g : Nat → Nat} {n i : Nat} (h : 57 < zSg g n i) : zDh g n i = 10 := by unfold zDh; rw [if_neg (by omega), if_pos h]
theorem zDh_yes {g : Nat → Nat} {n i : Nat} (h : 48 ≤ zSg g n i) (h2 : zSg g n i ≤ 57) : zDh g n i = zSg g n i - 48 := by unfold zDh; rw [if_neg (by omega), if_neg (by omega)]
def zD (d : Nat) : Int32 := if d < 10 then nI d else -1
def zRs (g : Nat → Nat) (n i d : Nat) : Bool × Nat := if zSg g n i = d then (true, i + 1) else (false, i)
theorem zRs_le {g : Nat → Nat} {n i d : Nat} (h : i ≤ n) (hd : 0 < d) : (zRs g n i d).2 ≤ n := by
  unfold zRs
  split
  · rename_i e; have := zSg_in (g := g) (n := n) (i := i) (by omega); show i + 1 ≤ n; omega
  · exact h
/-- at, digit -/
def zRd (g : Nat → Nat) (n i dg e : Nat) : Bool × Nat × Nat := if zDh g n i < 10 then (if zDh g n i < e then (true, i + 1, zDh g n i) else (false, i, dg)) else (false, i, dg)
theorem zRd_le {g : Nat → Nat} {n i dg e : Nat} (h : i ≤ n) : (zRd g n i dg e).2.1 ≤ n := by
  unfold zRd
  split
  · rename_i h2; have := zDh_in h2; split
    · show i + 1 ≤ n; omega
    · exact h
  · exact h
/-- at, place -/
def zRp (g : Nat → Nat) (n i pl : Nat) : Bool × Nat × Nat :=
  if zDh g n i < 10 then
    if zDh g n i = 0 then (true, i + 1, zDh g n i)
    else if zDh g n (i + 1) < 10 then
      if 24 ≤ 10 * zDh g n i + zDh g n (i + 1) then (true, i + 1, zDh g n i) else (true, i + 1 + 1, 10 * zDh g n i + zDh g n (i + 1))
    else (true, i + 1, zDh g n i)
  else (false, i, pl)
theorem zRp_le {g : Nat → Nat} {n i pl : Nat} (h : i ≤ n) : (zRp g n i pl).2.1 ≤ n := by
  unfold zRp
  split
  · rename_i h2; have h3 := zDh_in h2; split
    · show i + 1 ≤ n; omega
    · split
      · rename_i h4; have h5 := zDh_in h4; split
        · show i + 1 ≤ n; omega
        · show i + 1 + 1 ≤ n; omega
      · show i + 1 ≤ n; omega
  · exact h
abbrev zRt : Type := Nat × Nat × Nat × Nat
/-- a part, from the place 'i': at, kind, place, digit -/
def zRb (g : Nat → Nat) (n i q pl dg : Nat) : Bool × zRt :=
  if zSg g n i = 43 then ((zRd g n (i + 1) dg 10).1, (zRd g n (i + 1) dg 10).2.1, 43, pl, (zRd g n (i + 1) dg 10).2.2)
  else if zSg g n i = 45 then ((zRp g n (i + 1) pl).1, (zRp g n (i + 1) pl).2.1, 45, (zRp g n (i + 1) pl).2.2, dg)
  else if zSg g n i = 126 then ((zRd g n (i + 1) dg 6).1, (zRd g n (i + 1) dg 6).2.1, 126, pl, (zRd g n (i + 1) dg 6).2.2)
  else if (zRp g n i pl).1 then
    if (zRs g n (zRp g n i pl).2.1 61).1 then
      ((zRd g n (zRs g n (zRp g n i pl).2.1 61).2 dg 10).1, (zRd g n (zRs g n (zRp g n i pl).2.1 61).2 dg 10).2.1, 61, (zRp g n i pl).2.2, (zRd g n (zRs g n (zRp g n i pl).2.1 61).2 dg 10).2.2)
    else (false, (zRs g n (zRp g n i pl).2.1 61).2, 61, (zRp g n i pl).2.2, dg)
  else (false, (zRp g n i pl).2.1, 61, (zRp g n i pl).2.2, dg)
theorem zRb_le {g : Nat → Nat} {n i q pl dg : Nat} (h : i ≤ n) : (zRb g n i q pl dg).2.1 ≤ n := by
  unfold zRb
  split
  · rename_i e; have := zSg_in (g := g) (n := n) (i := i) (by omega); exact zRd_le (by omega)
  · split
    · rename_i e; have := zSg_in (g := g) (n := n) (i := i) (by omega); exact zRp_le (by omega)
    · split
      · rename_i e; have := zSg_in (g := g) (n := n) (i := i) (by omega); exact zRd_le (by omega)
      · have h1 := zRp_le (g := g) (pl := pl) h
        have h2 := zRs_le (g := g) (d := 61) h1 (by decide)
        split
        · split
          · exact zRd_le h2
          · exact h2
        · exact h1
def zRn (g : Nat → Nat) (n i q pl dg : Nat) : Bool × zRt :=
  if i = 0 then zRb g n i q pl dg else if (zRs g n i 44).1 then zRb g n (zRs g n i 44).2 q pl dg else (false, (zRs g n i 44).2, q, pl, dg)
theorem zRn_le {g : Nat → Nat} {n i q pl dg : Nat} (h : i ≤ n) : (zRn g n i q pl dg).2.1 ≤ n := by
  unfold zRn
  have h2 := zRs_le (g := g) (d := 44) h (by decide)
  split
  · exact zRb_le h
  · split
    · exact zRb_le h2
    · exact h2
def zraF (g : Nat → Nat) (n : Nat) : Nat → Bool → zRt → Bool × zRt
  | 0, w, X => (w, X)
  | f + 1, w, X => if w then (if n ≤ X.1 then (w, X) else zraF g n f (zRn g n X.1 X.2.1 X.2.2.1 X.2.2.2).1 (zRn g n X.1 X.2.1 X.2.2.1 X.2.2.2).2) else (w, X)
def zRa (g : Nat → Nat) (n q pl dg : Nat) : Bool × zRt := zraF g n 59 (zRn g n 0 q pl dg).1 (zRn g n 0 q pl dg).2
section ZM
variable {p : Program} {l : Launch} {e : Env} {R : Room} {s : State} {m : MethodId} {args : Array Value} {below : List Frame} {meth : Method} {c : Code} {H : Heap} {locs : List Loc} {cells slots : Nat} {Q : State → Prop}
variable {cc : ByteArray} {nL : Nat} {own : String} {pc : Nat} {ls : Array Slot} {rest : List Value} {D : va_G} {ca : Nat → ClassId} {ws : va_W} {A : Nat → Prop} {H0 : Heap} {a : Nat}
theorem zD_c {n : Nat} (k1 : n < 10 → W p l e R s m args below meth c H locs cells slots Q (F0 m pc ls (.int (nI n) :: rest))) (k2 : ¬ n < 10 → W p l e R s m args below meth c H locs cells slots Q (F0 m pc ls (.int (-1) :: rest))) : W p l e R s m args below meth c H locs cells slots Q (F0 m pc ls (.int (zD n) :: rest)) := by
  unfold zD
  by_cases h : n < 10
  · rw [if_pos h]; exact k1 h
  · rw [if_neg h]; exact k2 h
theorem z_look {x k : Nat} (hx : p.tables.exec = Jvm.exec) (hb : c.code = cc) {dflt : Int} {ps : Array (Int × Int)} {len : Nat} {off : Int} {tgt : Nat} (hk : x = k) (hk2 : k < 2 ^ 31) (hdg : decode cc pc = .ok (.lookupswitch dflt ps, len)) (hp : (ps.toList.zip (ps.toList.drop 1)).all (fun (a, next) => a.1 < next.1) = true) (ho : Op.lookupswitch.offset ps.toList dflt (k : Int) = off) (ht : (pc : Int) + off = (tgt : Int))
    (kk : W p l e R s m args below meth c H locs cells slots Q (F0 m tgt ls rest)) : W p l e R s m args below meth c H locs cells slots Q (F0 m pc ls (.int (nI x) :: rest)) := by
  subst hk
  exact lv_lookup hx hb hdg hp (by rw [nI_toInt hk2]; exact ho) ht kk
theorem zcpy_all {f g : Nat → Int32} {n : Nat} (cA : ClassId) : vp_cell cA (n, .inl (va_cpy f g 0 0 n)) = vp_cell cA (n, .inl f) := by
  rw [vp_cell_i, vp_cell_i]
  unfold arrV
  congr 1
  apply congrArg
  funext j
  have hj := j.isLt
  simp [va_cpy, hj]
theorem z_copyi {index n q0 q1 a0 : Nat} {f g : Nat → Int32} (S : CallFix p m c cc nL s args wAll own) (hsz : ls.size = nL) (hlink : Cond.methodLink own index arraycopyName ∈ wAll) (hK : zK D ca s) (hP : va_P D vwCl ws H) (hD : va_D A ws) (hS : va_S A H0 H locs) (ha0 : ws[q0]? = some (a0, .inl (ca 0, n, .inl f))) (ha1 : ws[q1]? = some (a, .inl (ca 0, n, .inl g))) (hn : n < 2 ^ 31)
    (hframes : 1 ≤ R.frames) (hlocals : (rest.map fun v => v.category).sum + (nativeFrameWords "java/lang/System" "arraycopy" 5 + 11) ≤ R.locals) (hdg : decode cc pc = .ok (.invokestatic index, 3))
    (kk : ∀ (H1 : Heap) (locs1 : List Loc), va_P D vwCl (ws.set q1 (a, .inl (ca 0, n, .inl f))) H1 → va_S A H0 H1 locs1 → W p l e R s m args below meth c H1 locs1 cells slots Q (F0 m (pc + 3) ls rest)) : W p l e R s m args below meth c H locs cells slots Q (F0 m pc ls (.int (nI n) :: .int 0 :: .ref a :: .int 0 :: .ref a0 :: rest)) := by
  have hcl : (nI n).toNatClampNeg = n := nI_clamp (by omega)
  refine va_copyi S.1 S.2.1 (S.2.2.1.trans hsz.symm) S.2.2.2.1 (S.2.2.2.2 _ hlink) (S.2.2.2.2 _ na_arraycopy) (S.2.2.2.2 _ st_arraycopy) (S.2.2.2.2 _ in_J10) hK hP hD hS q0 q1 0 0 ha0 ha1 rfl rfl rfl (by decide) (by decide) (nI_pos hn) (by rw [hcl]; exact Nat.le_of_eq (Nat.zero_add n)) (by rw [hcl]; exact Nat.le_of_eq (Nat.zero_add n)) (fun _ _ => rfl) hframes hlocals hdg (fun H1 locs1 h1 _ h3 => kk H1 locs1 (fun k q hk => ?_) h3)
  by_cases hkq : k = q1
  · subst hkq
    have hl := (List.getElem?_eq_some_iff.mp ha1).1
    rw [List.getElem?_set_self hl] at hk
    cases hk
    have h4 := h1 k _ (List.getElem?_set_self hl)
    have h5 : H1[a]? = some (vp_cell (ca 0) (n, .inl (va_cpy f g (0 : Int32).toNatClampNeg (0 : Int32).toNatClampNeg (nI n).toNatClampNeg))) := h4
    rw [hcl] at h5
    show H1[a]? = some (vp_cell (ca 0) (n, .inl f))
    rw [h5]
    exact congrArg some (zcpy_all (ca 0))
  · rw [List.getElem?_set_ne (Ne.symm hkq)] at hk
    exact h1 k q (by rw [List.getElem?_set_ne (Ne.symm hkq)]; exact hk)
end ZM
