/-! a call of a writing method in a big world: the world after it, cell by cell -/
def zsel (ws w' : va_W) : Nat ⊕ Nat → Option (Nat × va_E)
  | .inl i => ws[i]?
  | .inr j => w'[j]?
def zsok (is : List Nat) : Nat ⊕ Nat → Bool
  | .inl i => !is.contains i
  | .inr _ => true
theorem zset_len : ∀ (is : List Nat) (wc ws : va_W), (zset ws is wc).length = ws.length := by
  intro is
  induction is with
  | nil => intro wc ws; rfl
  | cons i is ih =>
    intro wc ws
    cases wc with
    | nil => rfl
    | cons c wc =>
      have h' : (zset ws (i :: is) (c :: wc)) = zset (ws.set i c) is wc := rfl
      rw [h', ih, List.length_set]
theorem zset_ne {is : List Nat} {wc ws : va_W} {i : Nat} {q : Nat × va_E} (hi : is.contains i = false) (hq : ws[i]? = some q) : (zset ws is wc)[i]? = some q := by
  have hl : i < (zset ws is wc).length := by rw [zset_len]; exact (List.getElem?_eq_some_iff.mp hq).1
  have h1 := List.getElem?_eq_getElem hl
  rcases zset_mem is wc ws i _ h1 with ⟨j, h2, -⟩ | ⟨h2, -⟩
  · have : i ∈ is := List.mem_of_getElem? h2
    rw [List.contains_eq_mem, decide_eq_false_iff_not] at hi
    exact absurd this hi
  · rw [h1, ← h2, hq]
theorem zset_at {is : List Nat} {wc ws : va_W} {i j : Nat} {q : Nat × va_E} (hn : va_nd is = true) (hi : is[j]? = some i) (hq : wc[j]? = some q) (hlt : i < ws.length) : (zset ws is wc)[i]? = some q := by
  have hl : i < (zset ws is wc).length := by rw [zset_len]; exact hlt
  have h1 := List.getElem?_eq_getElem hl
  rcases zset_mem is wc ws i _ h1 with ⟨j', h2, h3⟩ | ⟨-, h3⟩
  · have hjj : j' = j := va_nd_inj is hn j' j i h2 hi
    subst hjj
    rw [h1, ← h3, hq]
  · have := h3 j hi
    have := (List.getElem?_eq_some_iff.mp hq).1
    omega
theorem zsetP {D : va_G} {ws w w' ws1 : va_W} {H : Heap} {is : List Nat} {js : List (Nat ⊕ Nat)} (hP : va_P D vwCl (zset ws is w') H) (hn : va_nd is = true) (hC : is.map (fun i => ws[i]?) = w.map some) (hl : w'.length = w.length) (hok : js.all (zsok is) = true) (hj : js.map (zsel ws w') = ws1.map some) : va_P D vwCl ws1 H := by
  intro k q hq
  have h0 : (js.map (zsel ws w'))[k]? = some (some q) := by rw [hj, List.getElem?_map, hq]; rfl
  rw [List.getElem?_map] at h0
  cases hk : js[k]? with
  | none => rw [hk] at h0; cases h0
  | some z =>
    rw [hk] at h0
    have h1 : zsel ws w' z = some q := Option.some.inj h0
    have h2 : zsok is z = true := List.all_eq_true.mp hok z (List.mem_of_getElem? hk)
    cases z with
    | inl i =>
      refine hP i q (zset_ne ?_ h1)
      simpa [zsok] using h2
    | inr j =>
      have h3 : w'[j]? = some q := h1
      have hjl : j < w.length := by rw [← hl]; exact (List.getElem?_eq_some_iff.mp h3).1
      have h4 : (is.map (fun i => ws[i]?))[j]? = some (some w[j]) := by rw [hC, List.getElem?_map, List.getElem?_eq_getElem hjl]; rfl
      rw [List.getElem?_map] at h4
      cases hi : is[j]? with
      | none => rw [hi] at h4; cases h4
      | some i =>
        rw [hi] at h4
        have h5 : ws[i]? = some w[j] := Option.some.inj h4
        exact hP i q (zset_at hn hi h3 (List.getElem?_eq_some_iff.mp h5).1)
