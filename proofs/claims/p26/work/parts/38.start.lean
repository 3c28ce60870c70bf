/-! the law at its start: the words, the classes, the first cells -/
theorem tq_1 {w : Cond} (h : w ∈ tables_1_1) : w ∈ lw_tbl := List.mem_append_right _ (List.mem_append_left _ h)
theorem tq_2 {w : Cond} (h : w ∈ tables_1_2) : w ∈ lw_tbl := List.mem_append_right _ (List.mem_append_right _ (List.mem_append_left _ h))
theorem tq_3 {w : Cond} (h : w ∈ tables_1_3) : w ∈ lw_tbl := List.mem_append_right _ (List.mem_append_right _ (List.mem_append_right _ h))
theorem st_pk {s : State} {args : Array Value} (hts : ∀ w ∈ lw_tbl, w.before args s = true) : zPk s := ⟨va_Nw.of rfl (hts _ (tq_1 (List.mem_of_getElem? (i := 26) rfl))), va_Nw.of rfl (hts _ (tq_1 (List.mem_of_getElem? (i := 136) rfl))), va_Nw.of rfl (hts _ (tq_1 (List.mem_of_getElem? (i := 84) rfl))), va_Nw.of rfl (hts _ (tq_1 (List.mem_of_getElem? (i := 122) rfl))), va_AO.of (hts _ (tq_1 (List.mem_of_getElem? (i := 121) rfl)))⟩
def zW6 (ca : Nat → ClassId) (a : Nat → Nat) : va_W := [(a 0, .inr (6, [.ref (a 1), .ref (a 12), .ref (a 80)])), (a 1, .inr (2, [.ref (a 2), .ref (a 7), .ref (a 10)])), (a 2, .inr (3, [.ref (a 3), .ref (a 4), .ref (a 5), .ref (a 6), .int 0, .int 0])), (a 3, .inl (ca 0, 24, .inl (zFil 24 (-1) (fun _ => 0)))), (a 4, .inl (ca 0, 24, .inl (zFil 24 (-1) (fun _ => 0)))), (a 5, .inl (ca 0, 24, .inl (zFil 24 (-1) (fun _ => 0)))), (a 6, .inl (ca 0, 6, .inl (zFil 6 (-1) (fun _ => 0)))), (a 7, .inr (0, [.ref (a 8), .ref (a 9)])), (a 8, .inl (ca 0, 4, .inl (zFil 4 (-1) (fun _ => 0)))), (a 9, .inl (ca 0, 4, .inl (fun _ => 0))), (a 10, .inr (4, [.ref (a 11), .int 0, .int 0])), (a 11, .inl (ca 0, 3, .inl (fun _ => 0))), (a 12, .inr (1, [.ref (a 13), .int 0, .int 0])), (a 13, .inl (ca 3, 6, .inr (.inr (.inr (.inr (va_up (va_up (va_up (va_up (va_up (va_up (fun _ => none) 0 (some (a 14))) 1 (some (a 25))) 2 (some (a 36))) 3 (some (a 47))) 4 (some (a 58))) 5 (some (a 69)))))))), (a 14, .inr (2, [.ref (a 15), .ref (a 20), .ref (a 23)])), (a 15, .inr (3, [.ref (a 16), .ref (a 17), .ref (a 18), .ref (a 19), .int 0, .int 0])), (a 16, .inl (ca 0, 24, .inl (zFil 24 (-1) (fun _ => 0)))), (a 17, .inl (ca 0, 24, .inl (zFil 24 (-1) (fun _ => 0)))), (a 18, .inl (ca 0, 24, .inl (zFil 24 (-1) (fun _ => 0)))), (a 19, .inl (ca 0, 6, .inl (zFil 6 (-1) (fun _ => 0)))), (a 20, .inr (0, [.ref (a 21), .ref (a 22)])), (a 21, .inl (ca 0, 4, .inl (zFil 4 (-1) (fun _ => 0)))), (a 22, .inl (ca 0, 4, .inl (fun _ => 0))), (a 23, .inr (4, [.ref (a 24), .int 0, .int 0])), (a 24, .inl (ca 0, 3, .inl (fun _ => 0))), (a 25, .inr (2, [.ref (a 26), .ref (a 31), .ref (a 34)])), (a 26, .inr (3, [.ref (a 27), .ref (a 28), .ref (a 29), .ref (a 30), .int 0, .int 0])), (a 27, .inl (ca 0, 24, .inl (zFil 24 (-1) (fun _ => 0)))), (a 28, .inl (ca 0, 24, .inl (zFil 24 (-1) (fun _ => 0)))), (a 29, .inl (ca 0, 24, .inl (zFil 24 (-1) (fun _ => 0)))), (a 30, .inl (ca 0, 6, .inl (zFil 6 (-1) (fun _ => 0)))), (a 31, .inr (0, [.ref (a 32), .ref (a 33)])), (a 32, .inl (ca 0, 4, .inl (zFil 4 (-1) (fun _ => 0)))), (a 33, .inl (ca 0, 4, .inl (fun _ => 0))), (a 34, .inr (4, [.ref (a 35), .int 0, .int 0])), (a 35, .inl (ca 0, 3, .inl (fun _ => 0))), (a 36, .inr (2, [.ref (a 37), .ref (a 42), .ref (a 45)])), (a 37, .inr (3, [.ref (a 38), .ref (a 39), .ref (a 40), .ref (a 41), .int 0, .int 0])), (a 38, .inl (ca 0, 24, .inl (zFil 24 (-1) (fun _ => 0)))), (a 39, .inl (ca 0, 24, .inl (zFil 24 (-1) (fun _ => 0)))), (a 40, .inl (ca 0, 24, .inl (zFil 24 (-1) (fun _ => 0)))), (a 41, .inl (ca 0, 6, .inl (zFil 6 (-1) (fun _ => 0)))), (a 42, .inr (0, [.ref (a 43), .ref (a 44)])), (a 43, .inl (ca 0, 4, .inl (zFil 4 (-1) (fun _ => 0)))), (a 44, .inl (ca 0, 4, .inl (fun _ => 0))), (a 45, .inr (4, [.ref (a 46), .int 0, .int 0])), (a 46, .inl (ca 0, 3, .inl (fun _ => 0))), (a 47, .inr (2, [.ref (a 48), .ref (a 53), .ref (a 56)])), (a 48, .inr (3, [.ref (a 49), .ref (a 50), .ref (a 51), .ref (a 52), .int 0, .int 0])), (a 49, .inl (ca 0, 24, .inl (zFil 24 (-1) (fun _ => 0)))), (a 50, .inl (ca 0, 24, .inl (zFil 24 (-1) (fun _ => 0)))), (a 51, .inl (ca 0, 24, .inl (zFil 24 (-1) (fun _ => 0)))), (a 52, .inl (ca 0, 6, .inl (zFil 6 (-1) (fun _ => 0)))), (a 53, .inr (0, [.ref (a 54), .ref (a 55)])), (a 54, .inl (ca 0, 4, .inl (zFil 4 (-1) (fun _ => 0)))), (a 55, .inl (ca 0, 4, .inl (fun _ => 0))), (a 56, .inr (4, [.ref (a 57), .int 0, .int 0])), (a 57, .inl (ca 0, 3, .inl (fun _ => 0))), (a 58, .inr (2, [.ref (a 59), .ref (a 64), .ref (a 67)])), (a 59, .inr (3, [.ref (a 60), .ref (a 61), .ref (a 62), .ref (a 63), .int 0, .int 0])), (a 60, .inl (ca 0, 24, .inl (zFil 24 (-1) (fun _ => 0)))), (a 61, .inl (ca 0, 24, .inl (zFil 24 (-1) (fun _ => 0)))), (a 62, .inl (ca 0, 24, .inl (zFil 24 (-1) (fun _ => 0)))), (a 63, .inl (ca 0, 6, .inl (zFil 6 (-1) (fun _ => 0)))), (a 64, .inr (0, [.ref (a 65), .ref (a 66)])), (a 65, .inl (ca 0, 4, .inl (zFil 4 (-1) (fun _ => 0)))), (a 66, .inl (ca 0, 4, .inl (fun _ => 0))), (a 67, .inr (4, [.ref (a 68), .int 0, .int 0])), (a 68, .inl (ca 0, 3, .inl (fun _ => 0))), (a 69, .inr (2, [.ref (a 70), .ref (a 75), .ref (a 78)])), (a 70, .inr (3, [.ref (a 71), .ref (a 72), .ref (a 73), .ref (a 74), .int 0, .int 0])), (a 71, .inl (ca 0, 24, .inl (zFil 24 (-1) (fun _ => 0)))), (a 72, .inl (ca 0, 24, .inl (zFil 24 (-1) (fun _ => 0)))), (a 73, .inl (ca 0, 24, .inl (zFil 24 (-1) (fun _ => 0)))), (a 74, .inl (ca 0, 6, .inl (zFil 6 (-1) (fun _ => 0)))), (a 75, .inr (0, [.ref (a 76), .ref (a 77)])), (a 76, .inl (ca 0, 4, .inl (zFil 4 (-1) (fun _ => 0)))), (a 77, .inl (ca 0, 4, .inl (fun _ => 0))), (a 78, .inr (4, [.ref (a 79), .int 0, .int 0])), (a 79, .inl (ca 0, 3, .inl (fun _ => 0))), (a 80, .inr (5, [.ref (a 81), .int 0, .int 0, .int 0, .int 0, .int 0])), (a 81, .inl (ca 1, 60, .inl (fun _ => 0)))]
theorem d_nd {A : Nat → Prop} {ws : va_W} (h : va_D A ws) : (ws.map Prod.fst).Nodup := by
  refine List.pairwise_iff_getElem.mpr (fun i j hi hj hij e => ?_)
  rw [List.getElem_map, List.getElem_map] at e
  have hi' : i < ws.length := by simpa using hi
  have hj' : j < ws.length := by simpa using hj
  have := h.1 i j _ _ (List.getElem?_eq_getElem hi') (List.getElem?_eq_getElem hj') e
  omega
theorem d_in {A : Nat → Prop} {ws : va_W} (h : va_D A ws) {l : List Nat} (is : List Nat) (hs : is.map (fun i => (ws.map Prod.fst)[i]?) = l.map some) : ∀ q ∈ l, A q := by
  intro q hq
  obtain ⟨j, hj⟩ := List.getElem?_of_mem hq
  have h1 : (is.map (fun i => (ws.map Prod.fst)[i]?))[j]? = some (some q) := by rw [hs, List.getElem?_map, hj]; rfl
  rw [List.getElem?_map] at h1
  cases hi : is[j]? with
  | none => rw [hi] at h1; cases h1
  | some i =>
    rw [hi] at h1
    have h2 : (ws.map Prod.fst)[i]? = some q := Option.some.inj h1
    rw [List.getElem?_map] at h2
    cases hw : ws[i]? with
    | none => rw [hw] at h2; cases h2
    | some c =>
      rw [hw] at h2
      obtain rfl : c.1 = q := Option.some.inj h2
      exact h.2 i c hw
def zya (a : Nat → Nat) : Nat → Nat := fun k => a k
def zaa (a : Nat → Nat) : Nat → Nat := fun k => a (1 + k)
def zha (a : Nat → Nat) : Nat → Nat := fun k => a (12 + k)
def zxa (a : Nat → Nat) : Nat → Nat := fun k => a (80 + k)
def zba (a : Nat → Nat) : Nat → Nat → Nat := fun j k => a (14 + 11 * j + k)
def zFa (a : Nat → Nat) : Nat → Option Nat := va_up (va_up (va_up (va_up (va_up (va_up (fun _ => none) 0 (some (a 14))) 1 (some (a 25))) 2 (some (a 36))) 3 (some (a 47))) 4 (some (a 58))) 5 (some (a 69))
theorem m_lb {b : Nat → Nat} {q : Nat} (h : q ∈ zLb b) : ∃ k, k < 11 ∧ q = b k := by
  unfold zLb at h
  simp only [List.mem_cons, List.not_mem_nil, or_false] at h
  rcases h with h | h | h | h | h | h | h | h | h | h | h
  · exact ⟨0, by decide, h⟩
  · exact ⟨1, by decide, h⟩
  · exact ⟨2, by decide, h⟩
  · exact ⟨3, by decide, h⟩
  · exact ⟨4, by decide, h⟩
  · exact ⟨5, by decide, h⟩
  · exact ⟨6, by decide, h⟩
  · exact ⟨7, by decide, h⟩
  · exact ⟨8, by decide, h⟩
  · exact ⟨9, by decide, h⟩
  · exact ⟨10, by decide, h⟩
set_option maxRecDepth 100000 in
theorem st_ad {s : State} {ca : Nat → ClassId} {a : Nat → Nat} (hD : va_D (zAl s) (zW6 ca a)) : zAD (zya a) (zaa a) (zha a) (zba a) (zFa a) s.heap.size := by
  have hN := d_nd hD
  have hinj : ∀ i j, i < 82 → j < 82 → a i = a j → i = j := by
    intro i j hi hj e
    have h0 : ((List.range 82).map a).Nodup := znd_pick hN (List.range 82) (by decide +kernel) rfl
    have h1 : ((List.range 82).map a)[i]? = some (a i) := by rw [List.getElem?_map, List.getElem?_range hi]; rfl
    have h2 : ((List.range 82).map a)[j]? = some (a j) := by rw [List.getElem?_map, List.getElem?_range hj]; rfl
    rw [← e] at h2
    exact (List.getElem?_inj (by simpa using hi) h0).mp (h1.trans h2.symm)
  refine ⟨fun j hj => ?_, fun i j hi hj hn q h1 h2 => ?_, d_in hD [0, 12, 13, 1, 2, 3, 4, 5, 6, 7, 8, 9, 10, 11] rfl, fun j hj => ?_, fun j hj => ?_⟩
  · rcases (show j = 0 ∨ j = 1 ∨ j = 2 ∨ j = 3 ∨ j = 4 ∨ j = 5 by omega) with rfl | rfl | rfl | rfl | rfl | rfl
    · exact znd_pick hN [0, 12, 13, 14, 15, 16, 17, 18, 19, 20, 21, 22, 23, 24, 1, 2, 3, 4, 5, 6, 7, 8, 9, 10, 11] (by decide +kernel) rfl
    · exact znd_pick hN [0, 12, 13, 25, 26, 27, 28, 29, 30, 31, 32, 33, 34, 35, 1, 2, 3, 4, 5, 6, 7, 8, 9, 10, 11] (by decide +kernel) rfl
    · exact znd_pick hN [0, 12, 13, 36, 37, 38, 39, 40, 41, 42, 43, 44, 45, 46, 1, 2, 3, 4, 5, 6, 7, 8, 9, 10, 11] (by decide +kernel) rfl
    · exact znd_pick hN [0, 12, 13, 47, 48, 49, 50, 51, 52, 53, 54, 55, 56, 57, 1, 2, 3, 4, 5, 6, 7, 8, 9, 10, 11] (by decide +kernel) rfl
    · exact znd_pick hN [0, 12, 13, 58, 59, 60, 61, 62, 63, 64, 65, 66, 67, 68, 1, 2, 3, 4, 5, 6, 7, 8, 9, 10, 11] (by decide +kernel) rfl
    · exact znd_pick hN [0, 12, 13, 69, 70, 71, 72, 73, 74, 75, 76, 77, 78, 79, 1, 2, 3, 4, 5, 6, 7, 8, 9, 10, 11] (by decide +kernel) rfl
  · obtain ⟨k1, g1, e1⟩ := m_lb h1
    obtain ⟨k2, g2, e2⟩ := m_lb h2
    have e3 : a (14 + 11 * i + k1) = a (14 + 11 * j + k2) := e1.symm.trans e2
    have := hinj _ _ (by omega) (by omega) e3
    omega
  · rcases (show j = 0 ∨ j = 1 ∨ j = 2 ∨ j = 3 ∨ j = 4 ∨ j = 5 by omega) with rfl | rfl | rfl | rfl | rfl | rfl
    · exact d_in hD [14, 15, 16, 17, 18, 19, 20, 21, 22, 23, 24] rfl
    · exact d_in hD [25, 26, 27, 28, 29, 30, 31, 32, 33, 34, 35] rfl
    · exact d_in hD [36, 37, 38, 39, 40, 41, 42, 43, 44, 45, 46] rfl
    · exact d_in hD [47, 48, 49, 50, 51, 52, 53, 54, 55, 56, 57] rfl
    · exact d_in hD [58, 59, 60, 61, 62, 63, 64, 65, 66, 67, 68] rfl
    · exact d_in hD [69, 70, 71, 72, 73, 74, 75, 76, 77, 78, 79] rfl
  · rcases (show j = 0 ∨ j = 1 ∨ j = 2 ∨ j = 3 ∨ j = 4 ∨ j = 5 by omega) with rfl | rfl | rfl | rfl | rfl | rfl <;> rfl
def zT0 : zTb := (zFil 24 (-1) (fun _ => 0), zFil 24 (-1) (fun _ => 0), zFil 24 (-1) (fun _ => 0), zFil 6 (-1) (fun _ => 0), 0, 0)
def zS0 : zSt := (zT0, (zFil 4 (-1) (fun _ => 0), fun _ => 0), (fun _ => 0), 0, 0)
theorem zFil_lt {k j : Nat} {v : Int32} {f : Nat → Int32} (h : j < k) : zFil k v f j = v := by unfold zFil; exact if_pos h
theorem iv_0 : zIv zS0 0 :=
  ⟨⟨by decide, by decide⟩, fun k hk => Or.inl ⟨show zFil 24 (-1) (fun _ => 0) k = -1 from zFil_lt hk, show zFil 24 (-1) (fun _ => 0) k = -1 from zFil_lt hk, show zFil 24 (-1) (fun _ => 0) k = -1 from zFil_lt hk⟩, fun p hp => Or.inl (show zFil 6 (-1) (fun _ => 0) p = -1 from zFil_lt hp), fun a ha => Or.inl (show zFil 4 (-1) (fun _ => 0) a = -1 from zFil_lt ha), rfl⟩
set_option maxRecDepth 100000 in
theorem st_li {D : va_G} {ca : Nat → ClassId} {a : Nat → Nat} {H : Heap} (hP : va_P D vwCl (zW6 ca a) H) : zLI D ca (zya a) (zaa a) (zha a) (zxa a) (zba a) (zFa a) zS0 (fun _ => zS0) 0 0 0 H := by
  refine ⟨by decide, by decide, iv_0, fun _ _ => iv_0, hP.sub [0, 12, 13, 1, 2, 3, 4, 5, 6, 7, 8, 9, 10, 11] rfl, fun j hj => ?_⟩
  rcases (show j = 0 ∨ j = 1 ∨ j = 2 ∨ j = 3 ∨ j = 4 ∨ j = 5 by omega) with rfl | rfl | rfl | rfl | rfl | rfl
  · exact hP.sub [14, 15, 16, 17, 18, 19, 20, 21, 22, 23, 24] rfl
  · exact hP.sub [25, 26, 27, 28, 29, 30, 31, 32, 33, 34, 35] rfl
  · exact hP.sub [36, 37, 38, 39, 40, 41, 42, 43, 44, 45, 46] rfl
  · exact hP.sub [47, 48, 49, 50, 51, 52, 53, 54, 55, 56, 57] rfl
  · exact hP.sub [58, 59, 60, 61, 62, 63, 64, 65, 66, 67, 68] rfl
  · exact hP.sub [69, 70, 71, 72, 73, 74, 75, 76, 77, 78, 79] rfl
/-- the classes, and the arrays' classes, of the launch -/
theorem st_kn {s : State} {args : Array Value} (hts : ∀ w ∈ wAll, w.before args s = true) (hAO : va_AO "SeenPages$State" s) : ∃ (D : va_G) (ca : Nat → ClassId), zK D ca s := by
  have h : ∀ k : Nat, ∃ (cC : ClassId) (iS : Nat → Nat), ∀ q : vw_C, vwCl[k]? = some q → u_Kn s q.1 q.2.1 q.2.2 cC iS := by
    intro k
    match k with
    | 0 => obtain ⟨c, i, g⟩ := u_known hts in_lay_X0 (hts _ it_X0); exact ⟨c, i, fun q hq => by cases hq; exact g⟩
    | 1 => obtain ⟨c, i, g⟩ := u_known hts in_lay_X1 (hts _ it_X1); exact ⟨c, i, fun q hq => by cases hq; exact g⟩
    | 2 => obtain ⟨c, i, g⟩ := u_known hts in_lay_X2 (hts _ it_X2); exact ⟨c, i, fun q hq => by cases hq; exact g⟩
    | 3 => obtain ⟨c, i, g⟩ := u_known hts in_lay_X3 (hts _ it_X3); exact ⟨c, i, fun q hq => by cases hq; exact g⟩
    | 4 => obtain ⟨c, i, g⟩ := u_known hts in_lay_X4 (hts _ it_X4); exact ⟨c, i, fun q hq => by cases hq; exact g⟩
    | 5 => obtain ⟨c, i, g⟩ := u_known hts in_lay_X5 (hts _ it_X5); exact ⟨c, i, fun q hq => by cases hq; exact g⟩
    | 6 => obtain ⟨c, i, g⟩ := u_known hts in_lay_X6 (hts _ it_X6); exact ⟨c, i, fun q hq => by cases hq; exact g⟩
    | k + 7 => exact ⟨0, fun _ => 0, fun q hq => by simp [vwCl] at hq⟩
  obtain ⟨ci, ki, oi, i1, i2, i3⟩ := Cond.arrayClass_spec (hts _ ac_int)
  obtain ⟨cc, kc, oc, c1, c2, c3⟩ := Cond.arrayClass_spec (hts _ ac_char)
  obtain ⟨op, cp, kp, p1, -, p3, p4, p5⟩ := Cond.arrayOver_spec hAO
  refine ⟨(fun k => (h k).choose, fun k => (h k).choose_spec.choose), fun k => if k = 0 then ci else if k = 1 then cc else if k = 2 then ci else cp, fun k q hq => (h k).choose_spec.choose_spec q hq, fun k q hq => ?_⟩
  match k, hq with
  | 0, hq => cases hq; exact ⟨fun n z => ⟨fun k h => (by cases h), ki, i2, oi, i3⟩, i1⟩
  | 1, hq => cases hq; exact ⟨fun n z => ⟨fun k h => (by cases h), kc, c2, oc, c3⟩, c1⟩
  | 2, hq => cases hq; exact ⟨fun n z => ⟨fun k h => (by cases h), ki, i2, oi, i3⟩, i1⟩
  | 3, hq => cases hq; exact ⟨fun n z => ⟨fun k h => (by cases h), kp, p3, op, p4⟩, kp, op, p3, p4, p1, p5⟩
  | k + 4, hq => simp at hq
