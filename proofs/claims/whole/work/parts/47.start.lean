/-! the law at its start: the words, the classes, the first cells -/
theorem tq_1 {w : Cond} (h : w ∈ tables_1_1) : w ∈ lw_tbl := List.mem_append_right _ (List.mem_append_left _ h)
theorem tq_2 {w : Cond} (h : w ∈ tables_1_2) : w ∈ lw_tbl := List.mem_append_right _ (List.mem_append_right _ (List.mem_append_left _ h))
theorem tq_3 {w : Cond} (h : w ∈ tables_1_3) : w ∈ lw_tbl := List.mem_append_right _ (List.mem_append_right _ (List.mem_append_right _ (List.mem_append_left _ h)))
theorem tq_4 {w : Cond} (h : w ∈ tables_1_4) : w ∈ lw_tbl := List.mem_append_right _ (List.mem_append_right _ (List.mem_append_right _ (List.mem_append_right _ (List.mem_append_left _ h))))
theorem tq_5 {w : Cond} (h : w ∈ tables_1_5) : w ∈ lw_tbl := List.mem_append_right _ (List.mem_append_right _ (List.mem_append_right _ (List.mem_append_right _ (List.mem_append_right _ h))))
theorem sx_IA {s : State} {args : Array Value} (hts : ∀ w ∈ lw_tbl, w.before args s = true) : zXw xIA s := ⟨va_Nw.of rfl (hts (.castable xIA xIA) (tq_2 (List.mem_of_getElem? (i := 161) rfl))), va_Nw.of rfl (hts _ (tq_2 (List.mem_of_getElem? (i := 163) rfl))), va_Nw.of rfl (hts _ (tq_2 (List.mem_of_getElem? (i := 165) rfl))), va_Nw.of rfl (hts _ (tq_2 (List.mem_of_getElem? (i := 167) rfl)))⟩
theorem sn_IA {s : State} {args : Array Value} (hgv : (Jvm.Cond.and given_1 narrow_1).before args s = true) : zNcs xIA s := by
  have hs := flat_of_before _ hgv
  refine List.forall_mem_cons.mpr ⟨fun hn => ?_, List.forall_mem_cons.mpr ⟨fun hn => ?_, List.forall_mem_cons.mpr ⟨fun hn => ?_, fun _ h => absurd h List.not_mem_nil⟩⟩⟩
  · exact absurd rfl hn
  · exact va_Nc.of (hs (.not (.castable xIA xIS)) (by decide +kernel))
  · exact va_Nc.of (hs (.not (.castable xIA xIO)) (by decide +kernel))
theorem sx_IS {s : State} {args : Array Value} (hts : ∀ w ∈ lw_tbl, w.before args s = true) : zXw xIS s := ⟨va_Nw.of rfl (hts (.castable xIS xIS) (tq_2 (List.mem_of_getElem? (i := 237) rfl))), va_Nw.of rfl (hts _ (tq_2 (List.mem_of_getElem? (i := 163) rfl))), va_Nw.of rfl (hts _ (tq_2 (List.mem_of_getElem? (i := 165) rfl))), va_Nw.of rfl (hts _ (tq_2 (List.mem_of_getElem? (i := 167) rfl)))⟩
theorem sn_IS {s : State} {args : Array Value} (hgv : (Jvm.Cond.and given_1 narrow_1).before args s = true) : zNcs xIS s := by
  have hs := flat_of_before _ hgv
  refine List.forall_mem_cons.mpr ⟨fun hn => ?_, List.forall_mem_cons.mpr ⟨fun hn => ?_, List.forall_mem_cons.mpr ⟨fun hn => ?_, fun _ h => absurd h List.not_mem_nil⟩⟩⟩
  · exact va_Nc.of (hs (.not (.castable xIS xIA)) (by decide +kernel))
  · exact absurd rfl hn
  · exact va_Nc.of (hs (.not (.castable xIS xIO)) (by decide +kernel))
theorem sx_IO {s : State} {args : Array Value} (hts : ∀ w ∈ lw_tbl, w.before args s = true) : zXw xIO s := ⟨va_Nw.of rfl (hts (.castable xIO xIO) (tq_3 (List.mem_of_getElem? (i := 29) rfl))), va_Nw.of rfl (hts _ (tq_2 (List.mem_of_getElem? (i := 163) rfl))), va_Nw.of rfl (hts _ (tq_2 (List.mem_of_getElem? (i := 165) rfl))), va_Nw.of rfl (hts _ (tq_2 (List.mem_of_getElem? (i := 167) rfl)))⟩
theorem sn_IO {s : State} {args : Array Value} (hgv : (Jvm.Cond.and given_1 narrow_1).before args s = true) : zNcs xIO s := by
  have hs := flat_of_before _ hgv
  refine List.forall_mem_cons.mpr ⟨fun hn => ?_, List.forall_mem_cons.mpr ⟨fun hn => ?_, List.forall_mem_cons.mpr ⟨fun hn => ?_, fun _ h => absurd h List.not_mem_nil⟩⟩⟩
  · exact va_Nc.of (hs (.not (.castable xIO xIA)) (by decide +kernel))
  · exact va_Nc.of (hs (.not (.castable xIO xIS)) (by decide +kernel))
  · exact absurd rfl hn
theorem sx_all {s : State} {args : Array Value} {cur : ClassId} (hts : ∀ w ∈ lw_tbl, w.before args s = true) (hgv : (Jvm.Cond.and given_1 narrow_1).before args s = true) (hcur : s.vm.findClass RX6 = some cur) : zXA s := by
  have zs : ∀ (k : Nat) (tx : String), (Cond.stringRef RX6 k tx).before args s = true → zXs k tx s := fun k tx h => by
    obtain ⟨_, _, _, a, -, -, -, -, -, h2⟩ := Cond.stringRef_spec hcur h
    exact ⟨a, vk_R.of h h2⟩
  have key : ∀ q ∈ zXl, zXw q.1 s ∧ zXs q.2.1 q.2.2 s ∧ zNcs q.1 s :=
    List.forall_mem_cons.mpr ⟨⟨sx_IO hts, zs 66 _ (hts (.stringRef RX6 66 "place is not 0 to 23") (tq_3 (List.mem_of_getElem? (i := 36) rfl))), sn_IO hgv⟩,
    List.forall_mem_cons.mpr ⟨⟨sx_IA hts, zs 174 _ (hts (.stringRef RX6 174 "what is not 0 to 3") (tq_3 (List.mem_of_getElem? (i := 156) rfl))), sn_IA hgv⟩,
    List.forall_mem_cons.mpr ⟨⟨sx_IO hts, zs 105 _ (hts (.stringRef RX6 105 "page is not 0 to 5") (tq_3 (List.mem_of_getElem? (i := 87) rfl))), sn_IO hgv⟩,
    List.forall_mem_cons.mpr ⟨⟨sx_IA hts, zs 179 _ (hts (.stringRef RX6 179 "what is not 0 to 4") (tq_3 (List.mem_of_getElem? (i := 164) rfl))), sn_IA hgv⟩,
    List.forall_mem_cons.mpr ⟨⟨sx_IO hts, zs 88 _ (hts (.stringRef RX6 88 "asker is not 0 to 3") (tq_3 (List.mem_of_getElem? (i := 71) rfl))), sn_IO hgv⟩,
    List.forall_mem_cons.mpr ⟨⟨sx_IA hts, zs 184 _ (hts (.stringRef RX6 184 "what is not 0 to 2") (tq_3 (List.mem_of_getElem? (i := 172) rfl))), sn_IA hgv⟩,
    List.forall_mem_cons.mpr ⟨⟨sx_IA hts, zs 189 _ (hts (.stringRef RX6 189 "what is not 0 to 12") (tq_3 (List.mem_of_getElem? (i := 180) rfl))), sn_IA hgv⟩,
    List.forall_mem_cons.mpr ⟨⟨sx_IA hts, zs 36 _ (hts (.stringRef RX6 36 "value is not 0 to 9") (tq_2 (List.mem_of_getElem? (i := 200) rfl))), sn_IA hgv⟩,
    List.forall_mem_cons.mpr ⟨⟨sx_IA hts, zs 194 _ (hts (.stringRef RX6 194 "snapshot is not 0 to the clock") (tq_3 (List.mem_of_getElem? (i := 188) rfl))), sn_IA hgv⟩,
    List.forall_mem_cons.mpr ⟨⟨sx_IA hts, zs 117 _ (hts (.stringRef RX6 117 "value is not 0 to 9, or way not 0 to 2") (tq_3 (List.mem_of_getElem? (i := 95) rfl))), sn_IA hgv⟩,
    List.forall_mem_cons.mpr ⟨⟨sx_IA hts, zs 196 _ (hts (.stringRef RX6 196 "what is not 0 to 1") (tq_3 (List.mem_of_getElem? (i := 189) rfl))), sn_IA hgv⟩,
    List.forall_mem_cons.mpr ⟨⟨sx_IS hts, zs 53 _ (hts (.stringRef RX6 53 "there is no empty slot") (tq_3 (List.mem_of_getElem? (i := 4) rfl))), sn_IS hgv⟩,
    List.forall_mem_cons.mpr ⟨⟨sx_IS hts, zs 73 _ (hts (.stringRef RX6 73 "no version there is seen by the clock") (tq_3 (List.mem_of_getElem? (i := 43) rfl))), sn_IS hgv⟩,
    List.forall_mem_cons.mpr ⟨⟨sx_IS hts, zs 82 _ (hts (.stringRef RX6 82 "no version there is seen by the clock, or no slot is empty") (tq_3 (List.mem_of_getElem? (i := 59) rfl))), sn_IS hgv⟩,
    List.forall_mem_cons.mpr ⟨⟨sx_IS hts, zs 103 _ (hts (.stringRef RX6 103 "the asker has no snapshot") (tq_3 (List.mem_of_getElem? (i := 79) rfl))), sn_IS hgv⟩,
    List.forall_mem_cons.mpr ⟨⟨sx_IA hts, zs 142 _ (hts (.stringRef RX6 142 "code is not 33 to 126") (tq_3 (List.mem_of_getElem? (i := 108) rfl))), sn_IA hgv⟩,
    List.forall_mem_cons.mpr ⟨⟨sx_IS hts, zs 147 _ (hts (.stringRef RX6 147 "the buffer is full") (tq_3 (List.mem_of_getElem? (i := 109) rfl))), sn_IS hgv⟩,
    List.forall_mem_cons.mpr ⟨⟨sx_IA hts, zs 161 _ (hts (.stringRef RX6 161 "the buffer is not complete changes as a text") (tq_3 (List.mem_of_getElem? (i := 121) rfl))), sn_IA hgv⟩,
    List.forall_mem_cons.mpr ⟨⟨sx_IS hts, zs 169 _ (hts (.stringRef RX6 169 "no state is saved") (tq_3 (List.mem_of_getElem? (i := 144) rfl))), sn_IS hgv⟩,
    fun _ h => absurd h List.not_mem_nil⟩⟩⟩⟩⟩⟩⟩⟩⟩⟩⟩⟩⟩⟩⟩⟩⟩⟩⟩
  exact fun X k tx h => key (X, k, tx) h
theorem st_pk {s : State} {args : Array Value} (hts : ∀ w ∈ lw_tbl, w.before args s = true) : zPk s := ⟨va_Nw.of rfl (hts _ (tq_1 (List.mem_of_getElem? (i := 29) rfl))), va_Nw.of rfl (hts _ (tq_1 (List.mem_of_getElem? (i := 139) rfl))), va_Nw.of rfl (hts _ (tq_1 (List.mem_of_getElem? (i := 87) rfl))), va_Nw.of rfl (hts _ (tq_1 (List.mem_of_getElem? (i := 125) rfl))), va_AO.of (hts _ (tq_1 (List.mem_of_getElem? (i := 124) rfl)))⟩
theorem st_xt {s : State} {args : Array Value} (hts : ∀ w ∈ lw_tbl, w.before args s = true) (hgv : (Jvm.Cond.and given_1 narrow_1).before args s = true) : zXt (zAl s) s s.heap := by
  have hs := flat_of_before _ hgv
  exact ⟨vx_Zqof (hts _ (tq_2 (List.mem_of_getElem? (i := 186) rfl))) (hts _ (tq_1 (List.mem_of_getElem? (i := 10) rfl))) (hs (.isRef (.static Bundle.tN "UNASSIGNED_STACK" Bundle.steD)) (by decide +kernel)) (fun a h => Nat.not_le.mpr h), vx_Zqof (hts _ (tq_2 (List.mem_of_getElem? (i := 188) rfl))) (hts _ (tq_1 (List.mem_of_getElem? (i := 10) rfl))) (hs (.isRef (.static Bundle.tN "SUPPRESSED_SENTINEL" Bundle.listD)) (by decide +kernel)) (fun a h => Nat.not_le.mpr h)⟩
def zW6 (ca : Nat → ClassId) (a : Nat → Nat) : va_W := [(a 0, .inr (6, [.ref (a 1), .ref (a 12), .ref (a 80)])), (a 1, .inr (2, [.ref (a 2), .ref (a 7), .ref (a 10)])), (a 2, .inr (3, [.ref (a 3), .ref (a 4), .ref (a 5), .ref (a 6), .int 0, .int 0])), (a 3, .inl (ca 0, 24, .inl (zFil 24 (-1) (fun _ => 0)))), (a 4, .inl (ca 0, 24, .inl (zFil 24 (-1) (fun _ => 0)))), (a 5, .inl (ca 0, 24, .inl (zFil 24 (-1) (fun _ => 0)))), (a 6, .inl (ca 0, 6, .inl (zFil 6 (-1) (fun _ => 0)))), (a 7, .inr (0, [.ref (a 8), .ref (a 9)])), (a 8, .inl (ca 0, 4, .inl (zFil 4 (-1) (fun _ => 0)))), (a 9, .inl (ca 0, 4, .inl (fun _ => 0))), (a 10, .inr (4, [.ref (a 11), .int 0, .int 0])), (a 11, .inl (ca 0, 3, .inl (fun _ => 0))), (a 12, .inr (1, [.ref (a 13), .int 0, .int 0])), (a 13, .inl (ca 3, 6, .inr (.inr (.inr (.inr (va_up (va_up (va_up (va_up (va_up (va_up (fun _ => none) 0 (some (a 14))) 1 (some (a 25))) 2 (some (a 36))) 3 (some (a 47))) 4 (some (a 58))) 5 (some (a 69)))))))), (a 14, .inr (2, [.ref (a 15), .ref (a 20), .ref (a 23)])), (a 15, .inr (3, [.ref (a 16), .ref (a 17), .ref (a 18), .ref (a 19), .int 0, .int 0])), (a 16, .inl (ca 0, 24, .inl (zFil 24 (-1) (fun _ => 0)))), (a 17, .inl (ca 0, 24, .inl (zFil 24 (-1) (fun _ => 0)))), (a 18, .inl (ca 0, 24, .inl (zFil 24 (-1) (fun _ => 0)))), (a 19, .inl (ca 0, 6, .inl (zFil 6 (-1) (fun _ => 0)))), (a 20, .inr (0, [.ref (a 21), .ref (a 22)])), (a 21, .inl (ca 0, 4, .inl (zFil 4 (-1) (fun _ => 0)))), (a 22, .inl (ca 0, 4, .inl (fun _ => 0))), (a 23, .inr (4, [.ref (a 24), .int 0, .int 0])), (a 24, .inl (ca 0, 3, .inl (fun _ => 0))), (a 25, .inr (2, [.ref (a 26), .ref (a 31), .ref (a 34)])), (a 26, .inr (3, [.ref (a 27), .ref (a 28), .ref (a 29), .ref (a 30), .int 0, .int 0])), (a 27, .inl (ca 0, 24, .inl (zFil 24 (-1) (fun _ => 0)))), (a 28, .inl (ca 0, 24, .inl (zFil 24 (-1) (fun _ => 0)))), (a 29, .inl (ca 0, 24, .inl (zFil 24 (-1) (fun _ => 0)))), (a 30, .inl (ca 0, 6, .inl (zFil 6 (-1) (fun _ => 0)))), (a 31, .inr (0, [.ref (a 32), .ref (a 33)])), (a 32, .inl (ca 0, 4, .inl (zFil 4 (-1) (fun _ => 0)))), (a 33, .inl (ca 0, 4, .inl (fun _ => 0))), (a 34, .inr (4, [.ref (a 35), .int 0, .int 0])), (a 35, .inl (ca 0, 3, .inl (fun _ => 0))), (a 36, .inr (2, [.ref (a 37), .ref (a 42), .ref (a 45)])), (a 37, .inr (3, [.ref (a 38), .ref (a 39), .ref (a 40), .ref (a 41), .int 0, .int 0])), (a 38, .inl (ca 0, 24, .inl (zFil 24 (-1) (fun _ => 0)))), (a 39, .inl (ca 0, 24, .inl (zFil 24 (-1) (fun _ => 0)))), (a 40, .inl (ca 0, 24, .inl (zFil 24 (-1) (fun _ => 0)))), (a 41, .inl (ca 0, 6, .inl (zFil 6 (-1) (fun _ => 0)))), (a 42, .inr (0, [.ref (a 43), .ref (a 44)])), (a 43, .inl (ca 0, 4, .inl (zFil 4 (-1) (fun _ => 0)))), (a 44, .inl (ca 0, 4, .inl (fun _ => 0))), (a 45, .inr (4, [.ref (a 46), .int 0, .int 0])), (a 46, .inl (ca 0, 3, .inl (fun _ => 0))), (a 47, .inr (2, [.ref (a 48), .ref (a 53), .ref (a 56)])), (a 48, .inr (3, [.ref (a 49), .ref (a 50), .ref (a 51), .ref (a 52), .int 0, .int 0])), (a 49, .inl (ca 0, 24, .inl (zFil 24 (-1) (fun _ => 0)))), (a 50, .inl (ca 0, 24, .inl (zFil 24 (-1) (fun _ => 0)))), (a 51, .inl (ca 0, 24, .inl (zFil 24 (-1) (fun _ => 0)))), (a 52, .inl (ca 0, 6, .inl (zFil 6 (-1) (fun _ => 0)))), (a 53, .inr (0, [.ref (a 54), .ref (a 55)])), (a 54, .inl (ca 0, 4, .inl (zFil 4 (-1) (fun _ => 0)))), (a 55, .inl (ca 0, 4, .inl (fun _ => 0))), (a 56, .inr (4, [.ref (a 57), .int 0, .int 0])), (a 57, .inl (ca 0, 3, .inl (fun _ => 0))), (a 58, .inr (2, [.ref (a 59), .ref (a 64), .ref (a 67)])), (a 59, .inr (3, [.ref (a 60), .ref (a 61), .ref (a 62), .ref (a 63), .int 0, .int 0])), (a 60, .inl (ca 0, 24, .inl (zFil 24 (-1) (fun _ => 0)))), (a 61, .inl (ca 0, 24, .inl (zFil 24 (-1) (fun _ => 0)))), (a 62, .inl (ca 0, 24, .inl (zFil 24 (-1) (fun _ => 0)))), (a 63, .inl (ca 0, 6, .inl (zFil 6 (-1) (fun _ => 0)))), (a 64, .inr (0, [.ref (a 65), .ref (a 66)])), (a 65, .inl (ca 0, 4, .inl (zFil 4 (-1) (fun _ => 0)))), (a 66, .inl (ca 0, 4, .inl (fun _ => 0))), (a 67, .inr (4, [.ref (a 68), .int 0, .int 0])), (a 68, .inl (ca 0, 3, .inl (fun _ => 0))), (a 69, .inr (2, [.ref (a 70), .ref (a 75), .ref (a 78)])), (a 70, .inr (3, [.ref (a 71), .ref (a 72), .ref (a 73), .ref (a 74), .int 0, .int 0])), (a 71, .inl (ca 0, 24, .inl (zFil 24 (-1) (fun _ => 0)))), (a 72, .inl (ca 0, 24, .inl (zFil 24 (-1) (fun _ => 0)))), (a 73, .inl (ca 0, 24, .inl (zFil 24 (-1) (fun _ => 0)))), (a 74, .inl (ca 0, 6, .inl (zFil 6 (-1) (fun _ => 0)))), (a 75, .inr (0, [.ref (a 76), .ref (a 77)])), (a 76, .inl (ca 0, 4, .inl (zFil 4 (-1) (fun _ => 0)))), (a 77, .inl (ca 0, 4, .inl (fun _ => 0))), (a 78, .inr (4, [.ref (a 79), .int 0, .int 0])), (a 79, .inl (ca 0, 3, .inl (fun _ => 0))), (a 80, .inr (5, [.ref (a 81), .int 0, .int 0, .int 0, .int 0, .int 0])), (a 81, .inl (ca 1, 60, .inl (fun _ => 0)))]
def zW7 (ca : Nat → ClassId) (a : Nat → Nat) : va_W := [(a 0, .inr (7, [.int 0, .ref (a 1), .ref (a 2), .int 0, .ref (a 3), .int 0, .int 0, .int 0, .ref (a 4), .int 0, .long 0])), (a 1, .inl (ca 0, 99, .inl (fun _ => 0))), (a 2, .inl (ca 0, 594, .inl (fun _ => 0))), (a 3, .inl (ca 0, 60, .inl (fun _ => 0))), (a 4, .inl (ca 0, 93, .inl (fun _ => 0)))]
def zW0 (ca : Nat → ClassId) (a o : Nat → Nat) (r0 : Nat) : va_W := zW6 ca a ++ (zW7 ca o ++ [(r0, .inl (ca 2, 1, .inr (.inl (fun _ => 0))))])
theorem d_nd {A : Nat → Prop} {ws : va_W} (h : va_D A ws) : (ws.map Prod.fst).Nodup := by
  refine List.pairwise_iff_getElem.mpr (fun i j hi hj hij e => ?_)
  rw [List.getElem_map, List.getElem_map] at e
  have hi' : i < ws.length := by simpa using hi
  have hj' : j < ws.length := by simpa using hj
  have := h.1 i j _ _ (List.getElem?_eq_getElem hi') (List.getElem?_eq_getElem hj') e
  omega
theorem d_in {A : Nat → Prop} {ws : va_W} (h : va_D A ws) {l : List Nat} (is : List Nat) (hs : is.map (fun i => (ws.map Prod.fst)[i]?) = l.map some) : ∀ q ∈ l, A q := by
  intro q hq
  obtain ⟨j, hj⟩ := List.getElem?_of_mem hq
  have h1 : (is.map (fun i => (ws.map Prod.fst)[i]?))[j]? = some (some q) := by rw [hs, List.getElem?_map, hj]; rfl
  rw [List.getElem?_map] at h1
  cases hi : is[j]? with
  | none => rw [hi] at h1; cases h1
  | some i =>
    rw [hi] at h1
    have h2 : (ws.map Prod.fst)[i]? = some q := Option.some.inj h1
    rw [List.getElem?_map] at h2
    cases hw : ws[i]? with
    | none => rw [hw] at h2; cases h2
    | some c =>
      rw [hw] at h2
      obtain rfl : c.1 = q := Option.some.inj h2
      exact h.2 i c hw
def zya (a : Nat → Nat) : Nat → Nat := fun k => a k
def zaa (a : Nat → Nat) : Nat → Nat := fun k => a (1 + k)
def zha (a : Nat → Nat) : Nat → Nat := fun k => a (12 + k)
def zxa (a : Nat → Nat) : Nat → Nat := fun k => a (80 + k)
def zra (r0 : Nat) : Nat → Nat := fun _ => r0
def zba (a : Nat → Nat) : Nat → Nat → Nat := fun j k => a (14 + 11 * j + k)
def zFa (a : Nat → Nat) : Nat → Option Nat := va_up (va_up (va_up (va_up (va_up (va_up (fun _ => none) 0 (some (a 14))) 1 (some (a 25))) 2 (some (a 36))) 3 (some (a 47))) 4 (some (a 58))) 5 (some (a 69))
theorem m_lb {b : Nat → Nat} {q : Nat} (h : q ∈ zLb b) : ∃ k, k < 11 ∧ q = b k := by
  unfold zLb at h
  simp only [List.mem_cons, List.not_mem_nil, or_false] at h
  rcases h with h | h | h | h | h | h | h | h | h | h | h
  · exact ⟨0, by decide, h⟩
  · exact ⟨1, by decide, h⟩
  · exact ⟨2, by decide, h⟩
  · exact ⟨3, by decide, h⟩
  · exact ⟨4, by decide, h⟩
  · exact ⟨5, by decide, h⟩
  · exact ⟨6, by decide, h⟩
  · exact ⟨7, by decide, h⟩
  · exact ⟨8, by decide, h⟩
  · exact ⟨9, by decide, h⟩
  · exact ⟨10, by decide, h⟩
set_option maxRecDepth 100000 in
theorem st_ad {s : State} {ca : Nat → ClassId} {a o : Nat → Nat} {r0 : Nat} (hD : va_D (zAl s) (zW0 ca a o r0)) : zAD (zya a) (zaa a) (zha a) (zxa a) o (zra r0) (zba a) (zFa a) s.heap.size := by
  have hN := d_nd hD
  have hinj : ∀ i j, i < 82 → j < 82 → a i = a j → i = j := by
    intro i j hi hj e
    have h0 : ((List.range 82).map a).Nodup := znd_pick hN (List.range 82) (by decide +kernel) rfl
    have h1 : ((List.range 82).map a)[i]? = some (a i) := by rw [List.getElem?_map, List.getElem?_range hi]; rfl
    have h2 : ((List.range 82).map a)[j]? = some (a j) := by rw [List.getElem?_map, List.getElem?_range hj]; rfl
    rw [← e] at h2
    exact (List.getElem?_inj (by simpa using hi) h0).mp (h1.trans h2.symm)
  refine ⟨znd_pick hN [87, 0, 12, 13, 1, 2, 3, 4, 5, 6, 7, 8, 9, 10, 11, 80, 81, 82, 83, 84, 85, 86] (by decide +kernel) rfl, fun j hj => ?_, fun i j hi hj hn q h1 h2 => ?_, d_in hD [87, 0, 12, 13, 1, 2, 3, 4, 5, 6, 7, 8, 9, 10, 11, 80, 81, 82, 83, 84, 85, 86] rfl, fun j hj => ?_, fun j hj => ?_⟩
  · rcases (show j = 0 ∨ j = 1 ∨ j = 2 ∨ j = 3 ∨ j = 4 ∨ j = 5 by omega) with rfl | rfl | rfl | rfl | rfl | rfl
    · exact znd_pick hN [14, 15, 16, 17, 18, 19, 20, 21, 22, 23, 24, 87, 0, 12, 13, 1, 2, 3, 4, 5, 6, 7, 8, 9, 10, 11, 80, 81, 82, 83, 84, 85, 86] (by decide +kernel) rfl
    · exact znd_pick hN [25, 26, 27, 28, 29, 30, 31, 32, 33, 34, 35, 87, 0, 12, 13, 1, 2, 3, 4, 5, 6, 7, 8, 9, 10, 11, 80, 81, 82, 83, 84, 85, 86] (by decide +kernel) rfl
    · exact znd_pick hN [36, 37, 38, 39, 40, 41, 42, 43, 44, 45, 46, 87, 0, 12, 13, 1, 2, 3, 4, 5, 6, 7, 8, 9, 10, 11, 80, 81, 82, 83, 84, 85, 86] (by decide +kernel) rfl
    · exact znd_pick hN [47, 48, 49, 50, 51, 52, 53, 54, 55, 56, 57, 87, 0, 12, 13, 1, 2, 3, 4, 5, 6, 7, 8, 9, 10, 11, 80, 81, 82, 83, 84, 85, 86] (by decide +kernel) rfl
    · exact znd_pick hN [58, 59, 60, 61, 62, 63, 64, 65, 66, 67, 68, 87, 0, 12, 13, 1, 2, 3, 4, 5, 6, 7, 8, 9, 10, 11, 80, 81, 82, 83, 84, 85, 86] (by decide +kernel) rfl
    · exact znd_pick hN [69, 70, 71, 72, 73, 74, 75, 76, 77, 78, 79, 87, 0, 12, 13, 1, 2, 3, 4, 5, 6, 7, 8, 9, 10, 11, 80, 81, 82, 83, 84, 85, 86] (by decide +kernel) rfl
  · obtain ⟨k1, g1, e1⟩ := m_lb h1
    obtain ⟨k2, g2, e2⟩ := m_lb h2
    have e3 : a (14 + 11 * i + k1) = a (14 + 11 * j + k2) := e1.symm.trans e2
    have := hinj _ _ (by omega) (by omega) e3
    omega
  · rcases (show j = 0 ∨ j = 1 ∨ j = 2 ∨ j = 3 ∨ j = 4 ∨ j = 5 by omega) with rfl | rfl | rfl | rfl | rfl | rfl
    · exact d_in hD [14, 15, 16, 17, 18, 19, 20, 21, 22, 23, 24] rfl
    · exact d_in hD [25, 26, 27, 28, 29, 30, 31, 32, 33, 34, 35] rfl
    · exact d_in hD [36, 37, 38, 39, 40, 41, 42, 43, 44, 45, 46] rfl
    · exact d_in hD [47, 48, 49, 50, 51, 52, 53, 54, 55, 56, 57] rfl
    · exact d_in hD [58, 59, 60, 61, 62, 63, 64, 65, 66, 67, 68] rfl
    · exact d_in hD [69, 70, 71, 72, 73, 74, 75, 76, 77, 78, 79] rfl
  · rcases (show j = 0 ∨ j = 1 ∨ j = 2 ∨ j = 3 ∨ j = 4 ∨ j = 5 by omega) with rfl | rfl | rfl | rfl | rfl | rfl <;> rfl
set_option maxRecDepth 100000 in
theorem st_li {D : va_G} {ca : Nat → ClassId} {a o : Nat → Nat} {r0 : Nat} {H : Heap} (hP : va_P D vwCl (zW0 ca a o r0) H) : zLI D ca (zya a) (zaa a) (zha a) (zxa a) o (zra r0) (zba a) (zFa a) 0 (fun _ => 0) 0 H := by
  obtain ⟨h1, h2⟩ := rs_init
  refine ⟨zS0, fun _ => zS0, 0, 0, fun _ => 0, 0, 0, 0, 0, 0, fun _ => 0, fun _ => 0, 0, false, 0, fun _ => 0, 0, ⟨h1, h2, sr_init _ _ _, by decide, fun _ => Nat.zero_lt_succ _, by decide, by decide⟩, hP.sub [87, 0, 12, 13, 1, 2, 3, 4, 5, 6, 7, 8, 9, 10, 11, 80, 81] rfl, hP.sub [82, 83, 84, 85, 86] rfl, fun j hj => ?_⟩
  rcases (show j = 0 ∨ j = 1 ∨ j = 2 ∨ j = 3 ∨ j = 4 ∨ j = 5 by omega) with rfl | rfl | rfl | rfl | rfl | rfl
  · exact hP.sub [14, 15, 16, 17, 18, 19, 20, 21, 22, 23, 24] rfl
  · exact hP.sub [25, 26, 27, 28, 29, 30, 31, 32, 33, 34, 35] rfl
  · exact hP.sub [36, 37, 38, 39, 40, 41, 42, 43, 44, 45, 46] rfl
  · exact hP.sub [47, 48, 49, 50, 51, 52, 53, 54, 55, 56, 57] rfl
  · exact hP.sub [58, 59, 60, 61, 62, 63, 64, 65, 66, 67, 68] rfl
  · exact hP.sub [69, 70, 71, 72, 73, 74, 75, 76, 77, 78, 79] rfl
/-- the classes, and the arrays' classes, of the launch -/
theorem st_kn {s : State} {args : Array Value} (hts : ∀ w ∈ wAll, w.before args s = true) (hAO : va_AO "SeenPages$State" s) : ∃ (D : va_G) (ca : Nat → ClassId), zK D ca s := by
  have h : ∀ k : Nat, ∃ (cC : ClassId) (iS : Nat → Nat), ∀ q : vw_C, vwCl[k]? = some q → u_Kn s q.1 q.2.1 q.2.2 cC iS := by
    intro k
    match k with
    | 0 => obtain ⟨c, i, g⟩ := u_known hts in_lay_X0 (hts _ it_X0); exact ⟨c, i, fun q hq => by cases hq; exact g⟩
    | 1 => obtain ⟨c, i, g⟩ := u_known hts in_lay_X1 (hts _ it_X1); exact ⟨c, i, fun q hq => by cases hq; exact g⟩
    | 2 => obtain ⟨c, i, g⟩ := u_known hts in_lay_X2 (hts _ it_X2); exact ⟨c, i, fun q hq => by cases hq; exact g⟩
    | 3 => obtain ⟨c, i, g⟩ := u_known hts in_lay_X3 (hts _ it_X3); exact ⟨c, i, fun q hq => by cases hq; exact g⟩
    | 4 => obtain ⟨c, i, g⟩ := u_known hts in_lay_X4 (hts _ it_X4); exact ⟨c, i, fun q hq => by cases hq; exact g⟩
    | 5 => obtain ⟨c, i, g⟩ := u_known hts in_lay_X5 (hts _ it_X5); exact ⟨c, i, fun q hq => by cases hq; exact g⟩
    | 6 => obtain ⟨c, i, g⟩ := u_known hts in_lay_X6 (hts _ it_X6); exact ⟨c, i, fun q hq => by cases hq; exact g⟩
    | 7 => obtain ⟨c, i, g⟩ := u_known hts in_lay_X7 (hts _ it_X7); exact ⟨c, i, fun q hq => by cases hq; exact g⟩
    | k + 8 => exact ⟨0, fun _ => 0, fun q hq => by simp [vwCl] at hq⟩
  obtain ⟨ci, ki, oi, i1, i2, i3⟩ := Cond.arrayClass_spec (hts _ ac_int)
  obtain ⟨cc, kc, oc, c1, c2, c3⟩ := Cond.arrayClass_spec (hts _ ac_char)
  obtain ⟨cl, kl, ol, l1, l2, l3⟩ := Cond.arrayClass_spec (hts _ ac_long)
  obtain ⟨op, cp, kp, p1, -, p3, p4, p5⟩ := Cond.arrayOver_spec hAO
  refine ⟨(fun k => (h k).choose, fun k => (h k).choose_spec.choose), fun k => if k = 0 then ci else if k = 1 then cc else if k = 2 then cl else cp, fun k q hq => (h k).choose_spec.choose_spec q hq, fun k q hq => ?_⟩
  match k, hq with
  | 0, hq => cases hq; exact ⟨fun n z => ⟨fun k h => (by cases h), ki, i2, oi, i3⟩, i1⟩
  | 1, hq => cases hq; exact ⟨fun n z => ⟨fun k h => (by cases h), kc, c2, oc, c3⟩, c1⟩
  | 2, hq => cases hq; exact ⟨fun n z => ⟨fun k h => (by cases h), kl, l2, ol, l3⟩, l1⟩
  | 3, hq => cases hq; exact ⟨fun n z => ⟨fun k h => (by cases h), kp, p3, op, p4⟩, kp, op, p3, p4, p1, p5⟩
  | k + 4, hq => simp at hq
