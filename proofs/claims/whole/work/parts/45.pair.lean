/-! THE LAW'S INVARIANT; a call of the class and the same call of the reference, one behind the other -/
def zAD (y a h x o r : Nat → Nat) (rB : Nat → Nat → Nat) (F : Nat → Option Nat) (N : Nat) : Prop :=
  (zLd y a h x r ++ zLm o).Nodup ∧ (∀ j, j < 6 → (zLb (rB j) ++ (zLd y a h x r ++ zLm o)).Nodup) ∧ (∀ i j, i < 6 → j < 6 → i ≠ j → ∀ q ∈ zLb (rB i), q ∉ zLb (rB j)) ∧ (∀ q ∈ zLd y a h x r ++ zLm o, N ≤ q) ∧ (∀ j, j < 6 → ∀ q ∈ zLb (rB j), N ≤ q) ∧ ∀ j, j < 6 → F j = some (rB j 0)
def zPu (Z : zSt) (sf : Nat → Int32) (G : Nat → zSt) (nx sz : Nat) (sv : Nat → Int32) (n : Nat) (g : Nat → Nat) (pl dg t : Nat) : Prop :=
  zRS Z sf ∧ zIS Z (64 * t) ∧ zSR G nx sz sv (64 * t) ∧ n ≤ 60 ∧ (∀ k, g k < 128) ∧ pl < 24 ∧ dg < 10
theorem zPu.next {Z : zSt} {sf : Nat → Int32} {G : Nat → zSt} {nx sz : Nat} {sv : Nat → Int32} {n : Nat} {g : Nat → Nat} {pl dg t : Nat} (h : zPu Z sf G nx sz sv n g pl dg t) : zPu Z sf G nx sz sv n g pl dg (t + 1) :=
  ⟨h.1, h.2.1.mono (by omega), h.2.2.1.mono (by omega), h.2.2.2⟩
def zLI (D : va_G) (ca : Nat → ClassId) (y a h x o r : Nat → Nat) (rB : Nat → Nat → Nat) (F : Nat → Option Nat) (t : Nat) (ov : Nat → Int64) (thr : Int32) (H : Heap) : Prop :=
  ∃ (Z : zSt) (G : Nat → zSt) (nx sz : Nat) (g : Nat → Nat) (n i q pl dg : Nat) (sf sv : Nat → Int32) (i2 : Nat) (wl : Bool) (rm : Nat) (rd : Nat → Int32) (hh : Int64),
    zPu Z sf G nx sz sv n g pl dg t ∧ va_P D vwCl (zWd ca y a h x r F ov Z nx sz g n i q pl dg) H ∧ va_P D vwCl (zWm ca o thr sf sv sz n i2 wl rm g rd hh) H ∧ ∀ j, j < 6 → va_P D vwCl (zWb ca (rB j) (G j)) H
theorem nd_dj {l1 l2 : List Nat} (h : (l1 ++ l2).Nodup) {q : Nat} (h1 : q ∈ l1) : q ∉ l2 := fun h2 => (List.nodup_append.mp h).2.2 q h1 q h2 rfl
theorem nd_dj2 {l1 l2 : List Nat} (h : (l1 ++ l2).Nodup) {q : Nat} (h1 : q ∈ l2) : q ∉ l1 := fun h2 => (List.nodup_append.mp h).2.2 q h2 q h1 rfl
section AD
variable {y a h x o r : Nat → Nat} {rB : Nat → Nat → Nat} {F : Nat → Option Nat} {N : Nat}
theorem ad_d (C : zAD y a h x o r rB F N) : (zLd y a h x r).Nodup := (List.nodup_append.mp C.1).1
theorem ad_m (C : zAD y a h x o r rB F N) : (zLm o).Nodup := (List.nodup_append.mp C.1).2.1
theorem ad_b (C : zAD y a h x o r rB F N) {j : Nat} (hj : j < 6) : (zLb (rB j) ++ zLd y a h x r).Nodup := by
  have h1 := C.2.1 j hj
  rw [← List.append_assoc] at h1
  exact (List.nodup_append.mp h1).1
theorem ad_dm (C : zAD y a h x o r rB F N) : ∀ q ∈ zLd y a h x r, q ∉ zLm o := fun q => nd_dj C.1
theorem ad_md (C : zAD y a h x o r rB F N) : ∀ q ∈ zLm o, q ∉ zLd y a h x r := fun q => nd_dj2 C.1
theorem ad_bd (C : zAD y a h x o r rB F N) {j : Nat} (hj : j < 6) : ∀ q ∈ zLb (rB j), q ∉ zLd y a h x r := fun q => nd_dj (ad_b C hj)
theorem ad_bm (C : zAD y a h x o r rB F N) {j : Nat} (hj : j < 6) : ∀ q ∈ zLb (rB j), q ∉ zLm o := fun q h1 h2 => nd_dj (C.2.1 j hj) h1 (List.mem_append_right _ h2)
theorem ad_mb (C : zAD y a h x o r rB F N) {j : Nat} (hj : j < 6) : ∀ q ∈ zLm o, q ∉ zLb (rB j) ++ zLd y a h x r := fun q h1 h2 => (List.mem_append.mp h2).elim (fun h3 => ad_bm C hj q h3 h1) (ad_md C q h1)
theorem ad_bb (C : zAD y a h x o r rB F N) {i j : Nat} (hi : i < 6) (hj : j < 6) (hn : i ≠ j) : ∀ q ∈ zLb (rB i), q ∉ zLb (rB j) ++ zLd y a h x r := fun q h1 h2 => (List.mem_append.mp h2).elim (C.2.2.1 i j hi hj hn q h1) (ad_bd C hi q h1)
theorem ad_nd (C : zAD y a h x o r rB F N) : ∀ q ∈ zLd y a h x r, N ≤ q := fun q hq => C.2.2.2.1 q (List.mem_append_left _ hq)
theorem ad_nm (C : zAD y a h x o r rB F N) : ∀ q ∈ zLm o, N ≤ q := fun q hq => C.2.2.2.1 q (List.mem_append_right _ hq)
theorem ad_nb (C : zAD y a h x o r rB F N) {j : Nat} (hj : j < 6) : ∀ q ∈ zLb (rB j) ++ zLd y a h x r, N ≤ q := fun q hq => (List.mem_append.mp hq).elim (C.2.2.2.2.1 j hj q) (ad_nd C q)
theorem ad_F (C : zAD y a h x o r rB F N) {j : Nat} (hj : j < 6) : F j = some (rB j 0) := C.2.2.2.2.2 j hj
end AD
theorem ua (f : Nat → Int64) (v : Int64) : vp_updL f 0 v 0 = v := by unfold vp_updL; exact if_pos rfl
def zPair (l : Launch) (D : va_G) (ca : Nat → ClassId) (y a h x o r : Nat → Nat) (rB : Nat → Nat → Nat) (F : Nat → Option Nat) (N t : Nat) (yL : MethodName) (cL : ByteArray) (nL : Nat) (ex : List (Nat × Nat × Nat × Nat)) (yM : MethodName) (cM : ByteArray) (nM : Nat) (AL AM : List Value) (H : Heap) : Prop :=
  ∃ (LA : List Nat) (V V1 U U1 : va_W) (rv ans : Int32), zOneL l D ca yL cL nL ex LA V V1 AL (.int rv) ∧ (∀ q ∈ LA, N ≤ q) ∧ va_P D vwCl V H ∧ zOneM l D ca yM cM nM (some .int) 7 (o 0) (zLm o) U U1 AM (.int ans) ∧ (∀ H1, zKp LA H H1 → va_P D vwCl U H1) ∧
    ∀ H1 H2, va_P D vwCl V1 H1 → zKp LA H H1 → va_P D vwCl U1 H2 → zKp (zLm o) H1 H2 → ∃ (ov : Nat → Int64), zLI D ca y a h x o r rB F (t + 1) ov rv H2 ∧ (rv = 0 → ov 0 = ans.toInt64)
/-- two direct calls: the class writes -/
def zPairD (l : Launch) (D : va_G) (ca : Nat → ClassId) (y a h x o r : Nat → Nat) (rB : Nat → Nat → Nat) (F : Nat → Option Nat) (N t : Nat) (yL : MethodName) (cL : ByteArray) (nL : Nat) (yM : MethodName) (cM : ByteArray) (nM : Nat) (H : Heap) : Prop :=
  ∃ (LA : List Nat) (V V1 U U1 : va_W) (ans : Int32), zOneM l D ca yL cL nL (some .int) 6 (y 0) LA V V1 [] (.int ans) ∧ (∀ q ∈ LA, N ≤ q) ∧ va_P D vwCl V H ∧ zOneM l D ca yM cM nM (some .int) 7 (o 0) (zLm o) U U1 [] (.int ans) ∧ (∀ H1, zKp LA H H1 → va_P D vwCl U H1) ∧
    ∀ H1 H2, va_P D vwCl V1 H1 → zKp LA H H1 → va_P D vwCl U1 H2 → zKp (zLm o) H1 H2 → ∃ (ov : Nat → Int64) (thr : Int32), zLI D ca y a h x o r rB F (t + 1) ov thr H2
/-- two direct calls: the class only reads -/
def zPairR (l : Launch) (D : va_G) (ca : Nat → ClassId) (y a h x o r : Nat → Nat) (rB : Nat → Nat → Nat) (F : Nat → Option Nat) (N t : Nat) (rt : FieldType) (v : Value) (yL : MethodName) (cL : ByteArray) (nL : Nat) (yM : MethodName) (cM : ByteArray) (nM : Nat) (H : Heap) : Prop :=
  ∃ (V U U1 : va_W), zOneR l D ca yL cL nL (some rt) 6 (y 0) V [] v ∧ va_P D vwCl V H ∧ zOneM l D ca yM cM nM (some rt) 7 (o 0) (zLm o) U U1 [] v ∧ va_P D vwCl U H ∧
    ∀ H2, va_P D vwCl U1 H2 → zKp (zLm o) H H2 → ∃ (ov : Nat → Int64) (thr : Int32), zLI D ca y a h x o r rB F (t + 1) ov thr H2
section PAIR
variable {l : Launch} {D : va_G} {ca : Nat → ClassId} {y a h x o r : Nat → Nat} {rB : Nat → Nat → Nat} {F : Nat → Option Nat} {N t : Nat} {ov : Nat → Int64} {thr : Int32} {H : Heap}
variable {Z : zSt} {G : Nat → zSt} {nx sz : Nat} {g : Nat → Nat} {n i q pl dg : Nat} {sf sv : Nat → Int32} {i2 : Nat} {wl : Bool} {rm : Nat} {rd : Nat → Int32} {hh : Int64}
theorem li_same (C : zAD y a h x o r rB F N) (hPb : ∀ j, j < 6 → va_P D vwCl (zWb ca (rB j) (G j)) H)
    {ov' : Nat → Int64} {thr' : Int32} {g' : Nat → Nat} {n' i' q' pl' dg' i2' : Nat} {wl' : Bool} {rm' : Nat} {rd' : Nat → Int32} {hh' : Int64} (hp : zPu Z sf G nx sz sv n' g' pl' dg' (t + 1)) {H1 H2 : Heap}
    (h1 : va_P D vwCl (zWd ca y a h x r F ov' Z nx sz g' n' i' q' pl' dg') H1) (k1 : zKp (zLd y a h x r) H H1) (h2 : va_P D vwCl (zWm ca o thr' sf sv sz n' i2' wl' rm' g' rd' hh') H2) (k2 : zKp (zLm o) H1 H2) : zLI D ca y a h x o r rB F (t + 1) ov' thr' H2 :=
  ⟨Z, G, nx, sz, g', n', i', q', pl', dg', sf, sv, i2', wl', rm', rd', hh', hp, h1.kp k2 rfl (ad_dm C), h2, fun j hj => ((hPb j hj).kp k1 rfl (ad_bd C hj)).kp k2 rfl (ad_bm C hj)⟩
theorem li_save (C : zAD y a h x o r rB F N) (hPb : ∀ j, j < 6 → va_P D vwCl (zWb ca (rB j) (G j)) H) {jx : Nat} (hjx : jx < 6) {Gx : zSt} {G' : Nat → zSt} (hG : G' jx = Gx ∧ ∀ j, j < 6 → j ≠ jx → G' j = G j)
    {ov' : Nat → Int64} {thr' : Int32} {Z' : zSt} {nx' sz' : Nat} {sf' sv' : Nat → Int32} {g' : Nat → Nat} {n' i' q' pl' dg' i2' : Nat} {wl' : Bool} {rm' : Nat} {rd' : Nat → Int32} {hh' : Int64} (hp : zPu Z' sf' G' nx' sz' sv' n' g' pl' dg' (t + 1)) {H1 H2 : Heap}
    (h1 : va_P D vwCl (zWb ca (rB jx) Gx ++ zWd ca y a h x r F ov' Z' nx' sz' g' n' i' q' pl' dg') H1) (k1 : zKp (zLb (rB jx) ++ zLd y a h x r) H H1) (h2 : va_P D vwCl (zWm ca o thr' sf' sv' sz' n' i2' wl' rm' g' rd' hh') H2) (k2 : zKp (zLm o) H1 H2) : zLI D ca y a h x o r rB F (t + 1) ov' thr' H2 := by
  have e1 : va_P D vwCl (zWb ca (rB jx) Gx) H1 := h1.sub [0, 1, 2, 3, 4, 5, 6, 7, 8, 9, 10] rfl
  have e2 : va_P D vwCl (zWd ca y a h x r F ov' Z' nx' sz' g' n' i' q' pl' dg') H1 := h1.sub [11, 12, 13, 14, 15, 16, 17, 18, 19, 20, 21, 22, 23, 24, 25, 26, 27] rfl
  refine ⟨Z', G', nx', sz', g', n', i', q', pl', dg', sf', sv', i2', wl', rm', rd', hh', hp, e2.kp k2 rfl (ad_dm C), h2, fun j hj => ?_⟩
  by_cases e : j = jx
  · rw [e, hG.1]
    exact e1.kp k2 rfl (ad_bm C hjx)
  · rw [hG.2 j hj e]
    exact ((hPb j hj).kp k1 rfl (ad_bb C hj hjx e)).kp k2 rfl (ad_bm C hj)
theorem zPair_same {yL : MethodName} {cL : ByteArray} {nL : Nat} {ex : List (Nat × Nat × Nat × Nat)} {yM : MethodName} {cM : ByteArray} {nM : Nat} {AL AM : List Value} {rv ans : Int32} (C : zAD y a h x o r rB F N) (hPd : va_P D vwCl (zWd ca y a h x r F ov Z nx sz g n i q pl dg) H) (hPm : va_P D vwCl (zWm ca o thr sf sv sz n i2 wl rm g rd hh) H) (hPb : ∀ j, j < 6 → va_P D vwCl (zWb ca (rB j) (G j)) H)
    {ov' : Nat → Int64} {g' : Nat → Nat} {n' i' q' pl' dg' i2' : Nat} {wl' : Bool} {rm' : Nat} {rd' : Nat → Int32} {hh' : Int64}
    (hL : zOneL l D ca yL cL nL ex (zLd y a h x r) (zWd ca y a h x r F ov Z nx sz g n i q pl dg) (zWd ca y a h x r F ov' Z nx sz g' n' i' q' pl' dg') AL (.int rv))
    (hM : zOneM l D ca yM cM nM (some .int) 7 (o 0) (zLm o) (zWm ca o thr sf sv sz n i2 wl rm g rd hh) (zWm ca o rv sf sv sz n' i2' wl' rm' g' rd' hh') AM (.int ans))
    (hp : zPu Z sf G nx sz sv n' g' pl' dg' (t + 1)) (ha : rv = 0 → ov' 0 = ans.toInt64) : zPair l D ca y a h x o r rB F N t yL cL nL ex yM cM nM AL AM H :=
  ⟨_, _, _, _, _, rv, ans, hL, ad_nd C, hPd, hM, fun H1 k1 => hPm.kp k1 rfl (ad_md C), fun H1 H2 h1 k1 h2 k2 => ⟨ov', li_same C hPb hp h1 k1 h2 k2, ha⟩⟩
theorem zPair_sv {yL : MethodName} {cL : ByteArray} {nL : Nat} {ex : List (Nat × Nat × Nat × Nat)} {yM : MethodName} {cM : ByteArray} {nM : Nat} {AL AM : List Value} {ans : Int32} (C : zAD y a h x o r rB F N) (hp : zPu Z sf G nx sz sv n g pl dg t) (hPd : va_P D vwCl (zWd ca y a h x r F ov Z nx sz g n i q pl dg) H) (hPm : va_P D vwCl (zWm ca o thr sf sv sz n i2 wl rm g rd hh) H) (hPb : ∀ j, j < 6 → va_P D vwCl (zWb ca (rB j) (G j)) H)
    {ov' : Nat → Int64} {Z' : zSt} {sf' : Nat → Int32} {n' i' q' pl' dg' i2' : Nat} {wl' : Bool} {rm' : Nat} {rd' : Nat → Int32} {hh' : Int64}
    (hL : zOneL l D ca yL cL nL ex (zLb (rB nx) ++ zLd y a h x r) (zWb ca (rB nx) (G nx) ++ zWd ca y a h x r F ov Z nx sz g n i q pl dg) (zWb ca (rB nx) Z ++ zWd ca y a h x r F ov' Z' ((nx + 1) % 6) (zSz sz) g n' i' q' pl' dg') AL (.int 0))
    (hM : zOneM l D ca yM cM nM (some .int) 7 (o 0) (zLm o) (zWm ca o thr sf sv sz n i2 wl rm g rd hh) (zWm ca o 0 sf' (rSv sf sv sz) (rSm sz) n' i2' wl' rm' g rd' hh') AM (.int ans))
    (hR' : zRS Z' sf') (hI' : zIS Z' (64 * t + 64)) (hn' : n' ≤ 60) (hpl' : pl' < 24) (hdg' : dg' < 10) (ha : ov' 0 = ans.toInt64) : zPair l D ca y a h x o r rB F N t yL cL nL ex yM cM nM AL AM H := by
  obtain ⟨hR, hI, hS, hn, hg, -, -⟩ := hp
  obtain ⟨s1, s2⟩ := sr_save hS hI hR
  rw [s2] at hM
  have hx := hS.1
  refine ⟨_, _, _, _, _, 0, ans, hL, ad_nb C hx, (hPb nx hx).app hPd, hM, fun H1 k1 => hPm.kp k1 rfl (ad_mb C hx), fun H1 H2 h1 k1 h2 k2 => ⟨ov', li_save C hPb hx (G' := zGu G nx Z) ⟨if_pos rfl, fun j _ e => if_neg e⟩ ⟨hR', hI', s1.mono (by omega), hn', hg, hpl', hdg'⟩ h1 k1 h2 k2, fun _ => ha⟩⟩
theorem pr_put (hlt : l.stackTraces = false) (C : zAD y a h x o r rB F N) (ht : t < 512) (hI : zLI D ca y a h x o r rB F t ov thr H) (v : Int32) : zPair l D ca y a h x o r rB F N t yL_put cL_put 4 [(0, 9, 12, 13), (0, 9, 15, 15)] yX7_put cX7_put 2 [.ref (y 0), .int v, .ref (r 0)] [.int v] H := by
  obtain ⟨Z, G, nx, sz, g, n, i, q, pl, dg, sf, sv, i2, wl, rm, rd, hh, hp, hPd, hPm, hPb⟩ := hI
  have hp1 := hp.next
  obtain ⟨hR, hZ, hS, hn, hg, hpl, hdg⟩ := id hp
  have e1 : rIn v 0 9 = !zOu v 10 := ou_in (u := 9) (by decide)
  by_cases c1 : zOu v 10 = true
  · rw [c1] at e1
    exact zPair_same C hPd hPm hPb (o_L_put_A (hlt := hlt) (h1 := c1) (hN := ad_d C) ..) (o_M_put_A (hv := e1) (hN := ad_m C) ..) hp1 (fun h => absurd h (by decide))
  have c1 : zOu v 10 = false := by simpa using c1
  rw [c1] at e1
  have hlow := r_low hZ.1 hR.1
  by_cases c2 : zLow Z.1 < 24
  · obtain ⟨d, hd, rfl⟩ := ou_n (u := 10) (by decide) c1
    obtain ⟨a1, a2, a3⟩ := rs_put hZ hR hd c2
    exact zPair_sv C hp hPd hPm hPb (o_L_put_C (hnx := hS.1) (hsz := hS.2.1) (hF := ad_F C hS.1) (h1 := c1) (h2 := decide_eq_true c2) (hN := ad_b C hS.1) ..) (o_M_put_C (h0 := hS.2.1) (hv := e1) (hlo := by rw [hlow]; exact c2) (hN := ad_m C) ..) a1 (a2.mono (by omega)) hn hpl hdg ((ua _ _).trans (congrArg Int32.toInt64 a3))
  · exact zPair_same C hPd hPm hPb (o_L_put_B (hlt := hlt) (h1 := c1) (h2 := decide_eq_false c2) (hN := ad_d C) ..) (o_M_put_B (hv := e1) (hlo := by rw [hlow]; exact c2) (hN := ad_m C) ..) hp1 (fun h => absurd h (by decide))
theorem pr_take (hlt : l.stackTraces = false) (C : zAD y a h x o r rB F N) (ht : t < 512) (hI : zLI D ca y a h x o r rB F t ov thr H) (v : Int32) : zPair l D ca y a h x o r rB F N t yL_take cL_take 4 [(0, 9, 12, 20), (0, 9, 15, 15)] yX7_take cX7_take 2 [.ref (y 0), .int v, .ref (r 0)] [.int v] H := by
  obtain ⟨Z, G, nx, sz, g, n, i, q, pl, dg, sf, sv, i2, wl, rm, rd, hh, hp, hPd, hPm, hPb⟩ := hI
  have hp1 := hp.next
  obtain ⟨hR, hZ, hS, hn, hg, hpl, hdg⟩ := id hp
  have e1 : rIn v 0 23 = !zOu v 24 := ou_in (u := 23) (by decide)
  by_cases c1 : zOu v 24 = true
  · rw [c1] at e1
    exact zPair_same C hPd hPm hPb (o_L_take_A (hlt := hlt) (h1 := c1) (hN := ad_d C) ..) (o_M_take_A (hv := e1) (hN := ad_m C) ..) hp1 (fun h => absurd h (by decide))
  have c1 : zOu v 24 = false := by simpa using c1
  obtain ⟨k, hk, rfl⟩ := ou_n (u := 24) (by decide) c1
  have hseen : rSeen sf k (sf 0) = zSeen Z.1 k Z.1.2.2.2.2.1 := by rw [hR.1.2.2.1]; exact r_seen hZ.1 hR.1 hk _
  by_cases c2 : zSeen Z.1 k Z.1.2.2.2.2.1 = true
  · obtain ⟨a1, a2, a3⟩ := rs_take hZ hR hk c2
    exact zPair_sv C hp hPd hPm hPb (o_L_take_C (hnx := hS.1) (hsz := hS.2.1) (hF := ad_F C hS.1) (hk := hk) (h2 := c2) (hN := ad_b C hS.1) ..) (o_M_take_C (h0 := hS.2.1) (hk := hk) (hs := hseen.trans c2) (hN := ad_m C) ..) a1 (a2.mono (by omega)) hn hpl hdg ((ua _ _).trans (congrArg Int32.toInt64 a3))
  · have c2 : zSeen Z.1 k Z.1.2.2.2.2.1 = false := by simpa using c2
    exact zPair_same C hPd hPm hPb (o_L_take_B (hlt := hlt) (hk := hk) (h2 := c2) (hN := ad_d C) ..) (o_M_take_B (hk := hk) (hs := hseen.trans c2) (hN := ad_m C) ..) hp1 (fun h => absurd h (by decide))
theorem pr_change (hlt : l.stackTraces = false) (C : zAD y a h x o r rB F N) (ht : t < 512) (hI : zLI D ca y a h x o r rB F t ov thr H) (v : Int32) (u : Int32) : zPair l D ca y a h x o r rB F N t yL_change cL_change 5 [(0, 10, 13, 20), (0, 10, 17, 13), (0, 10, 21, 15)] yX7_change cX7_change 3 [.ref (y 0), .int v, .int u, .ref (r 0)] [.int v, .int u] H := by
  obtain ⟨Z, G, nx, sz, g, n, i, q, pl, dg, sf, sv, i2, wl, rm, rd, hh, hp, hPd, hPm, hPb⟩ := hI
  have hp1 := hp.next
  obtain ⟨hR, hZ, hS, hn, hg, hpl, hdg⟩ := id hp
  have e1 : rIn v 0 23 = !zOu v 24 := ou_in (u := 23) (by decide)
  by_cases c1 : zOu v 24 = true
  · rw [c1] at e1
    exact zPair_same C hPd hPm hPb (o_L_change_A (hlt := hlt) (h1 := c1) (hN := ad_d C) ..) (o_M_change_A (hv := e1) (hN := ad_m C) ..) hp1 (fun h => absurd h (by decide))
  have c1 : zOu v 24 = false := by simpa using c1
  obtain ⟨k, hk, rfl⟩ := ou_n (u := 24) (by decide) c1
  have e2 : rIn u 0 9 = !zOu u 10 := ou_in (u := 9) (by decide)
  by_cases c2 : zOu u 10 = true
  · rw [c2] at e2
    exact zPair_same C hPd hPm hPb (o_L_change_B (hlt := hlt) (hk := hk) (h2 := c2) (hN := ad_d C) ..) (o_M_change_B (hk := hk) (hu := e2) (hN := ad_m C) ..) hp1 (fun h => absurd h (by decide))
  have c2 : zOu u 10 = false := by simpa using c2
  rw [c2] at e2
  have hseen : rSeen sf k (sf 0) = zSeen Z.1 k Z.1.2.2.2.2.1 := by rw [hR.1.2.2.1]; exact r_seen hZ.1 hR.1 hk _
  have hlow := r_low hZ.1 hR.1
  by_cases c3 : zSeen Z.1 k Z.1.2.2.2.2.1 = true
  · by_cases c4 : zLow Z.1 < 24
    · obtain ⟨d, hd, rfl⟩ := ou_n (u := 10) (by decide) c2
      obtain ⟨a1, a2, a3⟩ := rs_change hZ hR hk hd c4 c3
      exact zPair_sv C hp hPd hPm hPb (o_L_change_D (hnx := hS.1) (hsz := hS.2.1) (hF := ad_F C hS.1) (hk := hk) (h2 := c2) (h3 := c3) (h4 := decide_eq_true c4) (hN := ad_b C hS.1) ..) (o_M_change_D (h0 := hS.2.1) (hk := hk) (hu := e2) (hs := hseen.trans c3) (hlo := by rw [hlow]; exact c4) (hN := ad_m C) ..) a1 (a2.mono (by omega)) hn hpl hdg ((ua _ _).trans (congrArg Int32.toInt64 a3))
    · exact zPair_same C hPd hPm hPb (o_L_change_C2 (hlt := hlt) (hk := hk) (h2 := c2) (h3 := c3) (h4 := decide_eq_false c4) (hN := ad_d C) ..) (o_M_change_C (hk := hk) (hu := e2) (hs := by rw [hlow, decide_eq_false c4, Bool.and_false]) (hN := ad_m C) ..) hp1 (fun h => absurd h (by decide))
  · have c3 : zSeen Z.1 k Z.1.2.2.2.2.1 = false := by simpa using c3
    exact zPair_same C hPd hPm hPb (o_L_change_C1 (hlt := hlt) (hk := hk) (h2 := c2) (h3 := c3) (hN := ad_d C) ..) (o_M_change_C (hk := hk) (hu := e2) (hs := by rw [hseen, c3, Bool.false_and]) (hN := ad_m C) ..) hp1 (fun h => absurd h (by decide))
theorem pr_open (hlt : l.stackTraces = false) (C : zAD y a h x o r rB F N) (ht : t < 512) (hI : zLI D ca y a h x o r rB F t ov thr H) (v : Int32) : zPair l D ca y a h x o r rB F N t yL_open cL_open 4 [(0, 9, 12, 20)] yX7_open cX7_open 2 [.ref (y 0), .int v, .ref (r 0)] [.int v] H := by
  obtain ⟨Z, G, nx, sz, g, n, i, q, pl, dg, sf, sv, i2, wl, rm, rd, hh, hp, hPd, hPm, hPb⟩ := hI
  have hp1 := hp.next
  obtain ⟨hR, hZ, hS, hn, hg, hpl, hdg⟩ := id hp
  have e1 : rIn v 0 3 = !zOu v 4 := ou_in (u := 3) (by decide)
  by_cases c1 : zOu v 4 = true
  · rw [c1] at e1
    exact zPair_same C hPd hPm hPb (o_L_open_A (hlt := hlt) (h1 := c1) (hN := ad_d C) ..) (o_M_open_A (hv := e1) (hN := ad_m C) ..) hp1 (fun h => absurd h (by decide))
  have c1 : zOu v 4 = false := by simpa using c1
  obtain ⟨k, hk, rfl⟩ := ou_n (u := 4) (by decide) c1
  obtain ⟨a1, a2, a3⟩ := rs_open hZ hR hk
  exact zPair_sv C hp hPd hPm hPb (o_L_open_C (hnx := hS.1) (hsz := hS.2.1) (hF := ad_F C hS.1) (hk := hk) (hN := ad_b C hS.1) ..) (o_M_open_B (h0 := hS.2.1) (hk := hk) (hN := ad_m C) ..) a1 (a2.mono (by omega)) hn hpl hdg ((ua _ _).trans (congrArg Int32.toInt64 a3))
theorem pr_close (hlt : l.stackTraces = false) (C : zAD y a h x o r rB F N) (ht : t < 512) (hI : zLI D ca y a h x o r rB F t ov thr H) (v : Int32) : zPair l D ca y a h x o r rB F N t yL_close cL_close 4 [(0, 9, 12, 20), (0, 9, 15, 15)] yX7_close cX7_close 3 [.ref (y 0), .int v, .ref (r 0)] [.int v] H := by
  obtain ⟨Z, G, nx, sz, g, n, i, q, pl, dg, sf, sv, i2, wl, rm, rd, hh, hp, hPd, hPm, hPb⟩ := hI
  have hp1 := hp.next
  obtain ⟨hR, hZ, hS, hn, hg, hpl, hdg⟩ := id hp
  have e1 : rIn v 0 3 = !zOu v 4 := ou_in (u := 3) (by decide)
  by_cases c1 : zOu v 4 = true
  · rw [c1] at e1
    exact zPair_same C hPd hPm hPb (o_L_close_A (hlt := hlt) (h1 := c1) (hN := ad_d C) ..) (o_M_close_A (hv := e1) (hN := ad_m C) ..) hp1 (fun h => absurd h (by decide))
  have c1 : zOu v 4 = false := by simpa using c1
  obtain ⟨k, hk, rfl⟩ := ou_n (u := 4) (by decide) c1
  have hsn := r_sn hR hk
  by_cases c2 : Z.2.1.1 k = -1
  · exact zPair_same C hPd hPm hPb (o_L_close_B (hlt := hlt) (hk := hk) (h2 := c2) (hN := ad_d C) ..) (o_M_close_B (hk := hk) (hs := hsn.trans c2) (hN := ad_m C) ..) hp1 (fun h => absurd h (by decide))
  · obtain ⟨a1, a2⟩ := rs_close hZ hR hk
    exact zPair_sv C hp hPd hPm hPb (o_L_close_C (hnx := hS.1) (hsz := hS.2.1) (hF := ad_F C hS.1) (hk := hk) (h2 := c2) (hN := ad_b C hS.1) ..) (o_M_close_C (h0 := hS.2.1) (hk := hk) (hs := by rw [hsn]; exact c2) (hN := ad_m C) ..) a1 (a2.mono (by omega)) hn hpl hdg ((ua _ _).trans (congrArg Int32.toInt64 hsn.symm))
theorem pr_sweep (hlt : l.stackTraces = false) (C : zAD y a h x o r rB F N) (ht : t < 512) (hI : zLI D ca y a h x o r rB F t ov thr H) (v : Int32) : zPair l D ca y a h x o r rB F N t yL_sweep cL_sweep 4 [(0, 9, 12, 20)] yX7_sweep cX7_sweep 2 [.ref (y 0), .int v, .ref (r 0)] [.int v] H := by
  obtain ⟨Z, G, nx, sz, g, n, i, q, pl, dg, sf, sv, i2, wl, rm, rd, hh, hp, hPd, hPm, hPb⟩ := hI
  have hp1 := hp.next
  obtain ⟨hR, hZ, hS, hn, hg, hpl, hdg⟩ := id hp
  have e1 : rIn v 0 5 = !zOu v 6 := ou_in (u := 5) (by decide)
  by_cases c1 : zOu v 6 = true
  · rw [c1] at e1
    exact zPair_same C hPd hPm hPb (o_L_sweep_A (hlt := hlt) (h1 := c1) (hN := ad_d C) ..) (o_M_sweep_A (hv := e1) (hN := ad_m C) ..) hp1 (fun h => absurd h (by decide))
  have c1 : zOu v 6 = false := by simpa using c1
  obtain ⟨k, hk, rfl⟩ := ou_n (u := 6) (by decide) c1
  obtain ⟨a3, a1, a2, -⟩ := rs_sweep (by omega) hZ hR hk
  exact zPair_sv C hp hPd hPm hPb (o_L_sweep_C (hnx := hS.1) (hsz := hS.2.1) (hF := ad_F C hS.1) (hk := hk) (hN := ad_b C hS.1) ..) (o_M_sweep_B (h0 := hS.2.1) (hk := hk) (hN := ad_m C) ..) a1 (a2.mono (by omega)) hn hpl hdg ((ua _ _).trans (congrArg Int32.toInt64 a3))
theorem pr_ask (hlt : l.stackTraces = false) (C : zAD y a h x o r rB F N) (ht : t < 512) (hI : zLI D ca y a h x o r rB F t ov thr H) (v : Int32) (u : Int32) (w : Int32) : zPair l D ca y a h x o r rB F N t yL_ask cL_ask 6 [(0, 12, 15, 20), (0, 12, 19, 13), (0, 12, 23, 15)] yX7_ask cX7_ask 5 [.ref (y 0), .int v, .int u, .int w, .ref (r 0)] [.int v, .int u, .int w] H := by
  obtain ⟨Z, G, nx, sz, g, n, i, q, pl, dg, sf, sv, i2, wl, rm, rd, hh, hp, hPd, hPm, hPb⟩ := hI
  have hp1 := hp.next
  obtain ⟨hR, hZ, hS, hn, hg, hpl, hdg⟩ := id hp
  have e1 : rIn v 0 3 = !zOu v 4 := ou_in (u := 3) (by decide)
  by_cases c1 : zOu v 4 = true
  · rw [c1] at e1
    exact zPair_same C hPd hPm hPb (o_L_ask_A (hlt := hlt) (h1 := c1) (hN := ad_d C) ..) (o_M_ask_A (hv := e1) (hN := ad_m C) ..) hp1 (fun h => absurd h (by decide))
  have c1 : zOu v 4 = false := by simpa using c1
  obtain ⟨k, hk, rfl⟩ := ou_n (u := 4) (by decide) c1
  have e2 : rIn u 0 9 = !zOu u 10 := ou_in (u := 9) (by decide)
  by_cases c2 : zOu u 10 = true
  · rw [c2] at e2
    exact zPair_same C hPd hPm hPb (o_L_ask_B1 (hlt := hlt) (hk := hk) (h2 := c2) (hN := ad_d C) ..) (o_M_ask_B1 (hk := hk) (hu := e2) (hN := ad_m C) ..) hp1 (fun h => absurd h (by decide))
  have c2 : zOu u 10 = false := by simpa using c2
  rw [c2] at e2
  have e3 : rIn w 0 2 = !zOu w 3 := ou_in (u := 2) (by decide)
  by_cases c3 : zOu w 3 = true
  · rw [c3] at e3
    exact zPair_same C hPd hPm hPb (o_L_ask_B2 (hlt := hlt) (hk := hk) (h2 := c2) (h3 := c3) (hN := ad_d C) ..) (o_M_ask_B2 (hk := hk) (hu := e2) (hw := e3) (hN := ad_m C) ..) hp1 (fun h => absurd h (by decide))
  have c3 : zOu w 3 = false := by simpa using c3
  obtain ⟨j, hw, rfl⟩ := ou_n (u := 3) (by decide) c3
  have hsn := r_sn hR hk
  by_cases c4 : Z.2.1.1 k = -1
  · exact zPair_same C hPd hPm hPb (o_L_ask_C (hlt := hlt) (hk := hk) (h2 := c2) (hw := hw) (h4 := c4) (hN := ad_d C) ..) (o_M_ask_C (hk := hk) (hu := e2) (hw := hw) (hs := hsn.trans c4) (hN := ad_m C) ..) hp1 (fun h => absurd h (by decide))
  · obtain ⟨⟨a1, a2⟩, a3⟩ := rs_ask (by omega) hZ hR hk hw u c4
    exact zPair_sv C hp hPd hPm hPb (o_L_ask_D (hnx := hS.1) (hsz := hS.2.1) (hF := ad_F C hS.1) (hk := hk) (h2 := c2) (hw := hw) (h4 := c4) (hN := ad_b C hS.1) ..) (o_M_ask_D (h0 := hS.2.1) (hk := hk) (hu := e2) (hw := hw) (hs := by rw [hsn]; exact c4) (hN := ad_m C) ..) a1 (a2.mono (by omega)) hn hpl hdg ((ua _ _).trans (congrArg Int32.toInt64 a3.symm))
theorem pr_append (hlt : l.stackTraces = false) (C : zAD y a h x o r rB F N) (ht : t < 512) (hI : zLI D ca y a h x o r rB F t ov thr H) (v : Int32) : zPair l D ca y a h x o r rB F N t yL_append cL_append 4 [(0, 9, 12, 13), (0, 9, 15, 15)] yX7_append cX7_append 2 [.ref (y 0), .int v, .ref (r 0)] [.int v] H := by
  obtain ⟨Z, G, nx, sz, g, n, i, q, pl, dg, sf, sv, i2, wl, rm, rd, hh, hp, hPd, hPm, hPb⟩ := hI
  have hp1 := hp.next
  obtain ⟨hR, hZ, hS, hn, hg, hpl, hdg⟩ := id hp
  by_cases c1 : v < 33
  · exact zPair_same C hPd hPm hPb (o_L_append_A1 (hlt := hlt) (h1 := c1) (hN := ad_d C) ..) (o_M_append_A (hv := by simp [rIn, c1]) (hN := ad_m C) ..) hp1 (fun h => absurd h (by decide))
  by_cases c2 : v ≤ 126
  · have e1 : rIn v 33 126 = true := by
      have : ¬ (126 : Int32) < v := i_le.mp c2
      simp [rIn, c1, this]
    by_cases c3 : n < 60
    · have c0 : ¬ v < 0 := by
        intro h
        apply c1
        rw [Int32.lt_iff_toInt_lt] at h ⊢
        have h0 : (0 : Int32).toInt = 0 := by decide
        have h1 : (33 : Int32).toInt = 33 := by decide
        omega
      obtain ⟨d, hd0, rfl⟩ := i_nat c0
      have hd : 33 ≤ d := Nat.not_lt.mp (fun h => c1 ((nI_ltI hd0 (by decide)).mpr h))
      have hd2 : d ≤ 126 := (nI_leI hd0 (by decide)).mp c2
      exact zPair_same C hPd hPm hPb (o_L_append_C (hn := hn) (hg := hg) (hd := hd) (hd2 := hd2) (h3 := c3) (hN := ad_d C) ..) (o_M_append_C (h0 := hn) (hk := hd) (hk2 := hd2) (hn6 := by omega) (hN := ad_m C) ..) ⟨hp1.1, hp1.2.1, hp1.2.2.1, by omega, fun k => by
        show va_up g n d k < 128
        unfold va_up
        split
        · omega
        · exact hg k, hpl, hdg⟩ (fun _ => ua _ _)
    · exact zPair_same C hPd hPm hPb (o_L_append_B (hlt := hlt) (hn := hn) (hg := hg) (h1 := c1) (h2 := c2) (h3 := by omega) (hN := ad_d C) ..) (o_M_append_B (h0 := hn) (hv := e1) (hn6 := by omega) (hN := ad_m C) ..) hp1 (fun h => absurd h (by decide))
  · exact zPair_same C hPd hPm hPb (o_L_append_A2 (hlt := hlt) (h1 := c1) (h2 := c2) (hN := ad_d C) ..) (o_M_append_A (hv := by
      have : (126 : Int32) < v := i_lt.mpr c2
      simp [rIn, this]) (hN := ad_m C) ..) hp1 (fun h => absurd h (by decide))
theorem pr_play (hlt : l.stackTraces = false) (C : zAD y a h x o r rB F N) (ht : t < 512) (hI : zLI D ca y a h x o r rB F t ov thr H)  : zPair l D ca y a h x o r rB F N t yL_play cL_play 3 [(0, 8, 11, 13)] yX7_play cX7_play 2 [.ref (y 0), .ref (r 0)] [] H := by
  obtain ⟨Z, G, nx, sz, g, n, i, q, pl, dg, sf, sv, i2, wl, rm, rd, hh, hp, hPd, hPm, hPb⟩ := hI
  have hp1 := hp.next
  obtain ⟨hR, hZ, hS, hn, hg, hpl, hdg⟩ := id hp
  have hok := ra_ok hg hn q pl dg rd
  have hb := zRa_ok (g := g) (n := n) (q := q) hpl hdg
  by_cases c1 : (zRa g n q pl dg).1 = true
  · obtain ⟨b1, b2, b3, b4⟩ := rs_play (rd := rd) hg hn c1
    obtain ⟨d1, d2, d3⟩ := b4 (64 * t) Z sf (zRa g n q pl dg).2.2.1 (zRa g n q pl dg).2.2.2.1 (zRa g n q pl dg).2.2.2.2 (by omega) hZ hR
    have hpo := zPl_ok (g := g) (n := n) (q := (zRa g n q pl dg).2.2.1) (Z := Z) hb.2.1 hb.2.2
    exact zPair_sv C hp hPd hPm hPb (o_L_play_C (hnx := hS.1) (hsz := hS.2.1) (hF := ad_F C hS.1) (hn := hn) (hg := hg) (hpl := hpl) (hdg := hdg) (h1 := c1) (hN := ad_b C hS.1) ..) (o_M_play_B (h0 := hS.2.1) (h1 := hn) (h2 := hg) (hw := b1) (hrm := b2) (hwf := b3) (hN := ad_m C) ..) d2 (d3.mono (by omega)) (Nat.zero_le _) hpo.2.1 hpo.2.2 ((ua _ _).trans (congrArg Int32.toInt64 d1))
  · have c1 : (zRa g n q pl dg).1 = false := by simpa using c1
    exact zPair_same C hPd hPm hPb (o_L_play_A (hlt := hlt) (hn := hn) (hg := hg) (h1 := c1) (hN := ad_d C) ..) (o_M_play_A (h0 := hn) (h1 := hg) (hw := hok.2.1.trans c1) (hN := ad_m C) ..) ⟨hp1.1, hp1.2.1, hp1.2.2.1, hn, hg, hb.2.1, hb.2.2⟩ (fun h => absurd h (by decide))
theorem pr_undo (hlt : l.stackTraces = false) (C : zAD y a h x o r rB F N) (ht : t < 512) (hI : zLI D ca y a h x o r rB F t ov thr H)  : zPair l D ca y a h x o r rB F N t yL_undo cL_undo 3 [(0, 8, 11, 15)] yX7_undo cX7_undo 2 [.ref (y 0), .ref (r 0)] [] H := by
  obtain ⟨Z, G, nx, sz, g, n, i, q, pl, dg, sf, sv, i2, wl, rm, rd, hh, hp, hPd, hPm, hPb⟩ := hI
  have hp1 := hp.next
  obtain ⟨hR, hZ, hS, hn, hg, hpl, hdg⟩ := id hp
  by_cases c1 : sz = 0
  · subst c1
    exact zPair_same C hPd hPm hPb (o_L_undo_A (hlt := hlt) (hN := ad_d C) ..) (o_M_undo_A (h0 := hS.2.1) (hm0 := rfl) (hN := ad_m C) ..) hp1 (fun h => absurd h (by decide))
  · obtain ⟨a1, a2, a3⟩ := sr_undo (sf := sf) hS (by omega)
    have hx : (nx + 5) % 6 < 6 := by omega
    have hL := o_L_undo_C (l := l) (D := D) (ca := ca) (a := a) (h := h) (x := x) (y := y) (r := r) (ov := ov) (Z := Z) (G := G ((nx + 5) % 6)) (g := g) (n := n) (i := i) (q := q) (pl := pl) (dg := dg) (hnx := hS.1) (hsz := hS.2.1) (hF := ad_F C hx) (hz0 := by omega) (hN := ad_b C hx)
    have hM := o_M_undo_B (l := l) (D := D) (ca := ca) (o := o) (thr := thr) (sf := sf) (sv := sv) (n := n) (i := i2) (wl := wl) (rm := rm) (g := g) (rd := rd) (hh := hh) (h0 := hS.2.1) (hm0 := c1) (hN := ad_m C)
    exact ⟨_, _, _, _, _, 0, _, hL, ad_nb C hx, (hPb _ hx).app hPd, hM, fun H1 k1 => hPm.kp k1 rfl (ad_mb C hx), fun H1 H2 h1 k1 h2 k2 => ⟨_, li_save C hPb hx (G' := G) ⟨rfl, fun j _ _ => rfl⟩ ⟨a2, a1.mono (by omega), a3.mono (by omega), hn, hg, hpl, hdg⟩ h1 k1 h2 k2, fun _ => ua _ _⟩⟩
theorem pr_slot (hlt : l.stackTraces = false) (C : zAD y a h x o r rB F N) (ht : t < 512) (hI : zLI D ca y a h x o r rB F t ov thr H) (v : Int32) (u : Int32) : zPair l D ca y a h x o r rB F N t yL_slot cL_slot 5 [(0, 10, 13, 20), (0, 10, 17, 13)] yX7_slot cX7_slot 3 [.ref (y 0), .int v, .int u, .ref (r 0)] [.int v, .int u] H := by
  obtain ⟨Z, G, nx, sz, g, n, i, q, pl, dg, sf, sv, i2, wl, rm, rd, hh, hp, hPd, hPm, hPb⟩ := hI
  have hp1 := hp.next
  obtain ⟨hR, hZ, hS, hn, hg, hpl, hdg⟩ := id hp
  have e1 : rIn v 0 23 = !zOu v 24 := ou_in (u := 23) (by decide)
  by_cases c1 : zOu v 24 = true
  · rw [c1] at e1
    exact zPair_same C hPd hPm hPb (o_L_slot_A (hlt := hlt) (h1 := c1) (hN := ad_d C) ..) (o_M_slot_A (hv := e1) (hN := ad_m C) ..) hp1 (fun h => absurd h (by decide))
  have c1 : zOu v 24 = false := by simpa using c1
  obtain ⟨k, hk, rfl⟩ := ou_n (u := 24) (by decide) c1
  have e2 : rIn u 0 3 = !zOu u 4 := ou_in (u := 3) (by decide)
  by_cases c2 : zOu u 4 = true
  · rw [c2] at e2
    exact zPair_same C hPd hPm hPb (o_L_slot_B (hlt := hlt) (hk := hk) (h2 := c2) (hN := ad_d C) ..) (o_M_slot_B (hk := hk) (hu := e2) (hN := ad_m C) ..) hp1 (fun h => absurd h (by decide))
  have c2 : zOu u 4 = false := by simpa using c2
  obtain ⟨w, hw, rfl⟩ := ou_n (u := 4) (by decide) c2
  exact zPair_same C hPd hPm hPb (o_L_slot_C (hk := hk) (hw := hw) (hN := ad_d C) ..) (o_M_slot_C (hk := hk) (hw := hw) (hN := ad_m C) ..) hp1 (fun _ => (ua _ _).trans (congrArg Int32.toInt64 (r_ts hZ.1 hR.1 hk hw).symm))
theorem pr_page (hlt : l.stackTraces = false) (C : zAD y a h x o r rB F N) (ht : t < 512) (hI : zLI D ca y a h x o r rB F t ov thr H) (v : Int32) (u : Int32) : zPair l D ca y a h x o r rB F N t yL_page cL_page 5 [(0, 10, 13, 20), (0, 10, 17, 13)] yX7_page cX7_page 3 [.ref (y 0), .int v, .int u, .ref (r 0)] [.int v, .int u] H := by
  obtain ⟨Z, G, nx, sz, g, n, i, q, pl, dg, sf, sv, i2, wl, rm, rd, hh, hp, hPd, hPm, hPb⟩ := hI
  have hp1 := hp.next
  obtain ⟨hR, hZ, hS, hn, hg, hpl, hdg⟩ := id hp
  have e1 : rIn v 0 5 = !zOu v 6 := ou_in (u := 5) (by decide)
  by_cases c1 : zOu v 6 = true
  · rw [c1] at e1
    exact zPair_same C hPd hPm hPb (o_L_page_A (hlt := hlt) (h1 := c1) (hN := ad_d C) ..) (o_M_page_A (hv := e1) (hN := ad_m C) ..) hp1 (fun h => absurd h (by decide))
  have c1 : zOu v 6 = false := by simpa using c1
  obtain ⟨k, hk, rfl⟩ := ou_n (u := 6) (by decide) c1
  have e2 : rIn u 0 4 = !zOu u 5 := ou_in (u := 4) (by decide)
  by_cases c2 : zOu u 5 = true
  · rw [c2] at e2
    exact zPair_same C hPd hPm hPb (o_L_page_B (hlt := hlt) (hk := hk) (h2 := c2) (hN := ad_d C) ..) (o_M_page_B (hk := hk) (hu := e2) (hN := ad_m C) ..) hp1 (fun h => absurd h (by decide))
  have c2 : zOu u 5 = false := by simpa using c2
  obtain ⟨w, hw, rfl⟩ := ou_n (u := 5) (by decide) c2
  exact zPair_same C hPd hPm hPb (o_L_page_C (hk := hk) (hw := hw) (hN := ad_d C) ..) (o_M_page_C (hk := hk) (hw := hw) (hN := ad_m C) ..) hp1 (fun _ => (ua _ _).trans (congrArg Int32.toInt64 (r_tp hZ.1 hR hk hw).symm))
theorem pr_asker (hlt : l.stackTraces = false) (C : zAD y a h x o r rB F N) (ht : t < 512) (hI : zLI D ca y a h x o r rB F t ov thr H) (v : Int32) (u : Int32) : zPair l D ca y a h x o r rB F N t yL_asker cL_asker 5 [(0, 10, 13, 20), (0, 10, 17, 13)] yX7_asker cX7_asker 3 [.ref (y 0), .int v, .int u, .ref (r 0)] [.int v, .int u] H := by
  obtain ⟨Z, G, nx, sz, g, n, i, q, pl, dg, sf, sv, i2, wl, rm, rd, hh, hp, hPd, hPm, hPb⟩ := hI
  have hp1 := hp.next
  obtain ⟨hR, hZ, hS, hn, hg, hpl, hdg⟩ := id hp
  have e1 : rIn v 0 3 = !zOu v 4 := ou_in (u := 3) (by decide)
  by_cases c1 : zOu v 4 = true
  · rw [c1] at e1
    exact zPair_same C hPd hPm hPb (o_L_asker_A (hlt := hlt) (h1 := c1) (hN := ad_d C) ..) (o_M_asker_A (hv := e1) (hN := ad_m C) ..) hp1 (fun h => absurd h (by decide))
  have c1 : zOu v 4 = false := by simpa using c1
  obtain ⟨k, hk, rfl⟩ := ou_n (u := 4) (by decide) c1
  have e2 : rIn u 0 2 = !zOu u 3 := ou_in (u := 2) (by decide)
  by_cases c2 : zOu u 3 = true
  · rw [c2] at e2
    exact zPair_same C hPd hPm hPb (o_L_asker_B (hlt := hlt) (hk := hk) (h2 := c2) (hN := ad_d C) ..) (o_M_asker_B (hk := hk) (hu := e2) (hN := ad_m C) ..) hp1 (fun h => absurd h (by decide))
  have c2 : zOu u 3 = false := by simpa using c2
  obtain ⟨w, hw, rfl⟩ := ou_n (u := 3) (by decide) c2
  exact zPair_same C hPd hPm hPb (o_L_asker_C (hk := hk) (hw := hw) (hN := ad_d C) ..) (o_M_asker_C (hk := hk) (hw := hw) (hN := ad_m C) ..) hp1 (fun _ => (ua _ _).trans (congrArg Int32.toInt64 (r_ta hZ.1 hR hk hw).symm))
theorem pr_count (hlt : l.stackTraces = false) (C : zAD y a h x o r rB F N) (ht : t < 512) (hI : zLI D ca y a h x o r rB F t ov thr H) (v : Int32) : zPair l D ca y a h x o r rB F N t yL_count cL_count 4 [(0, 9, 12, 13)] yX7_count cX7_count 2 [.ref (y 0), .int v, .ref (r 0)] [.int v] H := by
  obtain ⟨Z, G, nx, sz, g, n, i, q, pl, dg, sf, sv, i2, wl, rm, rd, hh, hp, hPd, hPm, hPb⟩ := hI
  have hp1 := hp.next
  obtain ⟨hR, hZ, hS, hn, hg, hpl, hdg⟩ := id hp
  have e1 : rIn v 0 12 = !zOu v 13 := ou_in (u := 12) (by decide)
  by_cases c1 : zOu v 13 = true
  · rw [c1] at e1
    exact zPair_same C hPd hPm hPb (o_L_count_A (hlt := hlt) (h1 := c1) (hN := ad_d C) ..) (o_M_count_A (hv := e1) (hN := ad_m C) ..) hp1 (fun h => absurd h (by decide))
  have c1 : zOu v 13 = false := by simpa using c1
  obtain ⟨w, hw, rfl⟩ := ou_n (u := 13) (by decide) c1
  exact zPair_same C hPd hPm hPb (o_L_count_C (hsz := hS.2.1) (hw := hw) (hN := ad_d C) ..) (o_M_count_C (h0 := hS.2.1) (hw := hw) (hN := ad_m C) ..) hp1 (fun _ => (ua _ _).trans (congrArg Int32.toInt64 (r_tc hZ.1 hR hw).symm))
theorem pr_ifAsked (hlt : l.stackTraces = false) (C : zAD y a h x o r rB F N) (ht : t < 512) (hI : zLI D ca y a h x o r rB F t ov thr H) (v : Int32) (u : Int32) (w : Int32) (z : Int32) : zPair l D ca y a h x o r rB F N t yL_ifAsked cL_ifAsked 7 [(0, 14, 17, 13)] yX7_ifAsked cX7_ifAsked 6 [.ref (y 0), .int v, .int u, .int w, .int z, .ref (r 0)] [.int v, .int u, .int w, .int z] H := by
  obtain ⟨Z, G, nx, sz, g, n, i, q, pl, dg, sf, sv, i2, wl, rm, rd, hh, hp, hPd, hPm, hPb⟩ := hI
  have hp1 := hp.next
  obtain ⟨hR, hZ, hS, hn, hg, hpl, hdg⟩ := id hp
  have hck : sf 0 = Z.1.2.2.2.2.1 := hR.1.2.2.1
  by_cases c1 : v < 0
  · exact zPair_same C hPd hPm hPb (o_L_ifAsked_A1 (hlt := hlt) (h1 := c1) (hN := ad_d C) ..) (o_M_ifAsked_A1 (h1 := by simp [rIn, c1]) (hN := ad_m C) ..) hp1 (fun h => absurd h (by decide))
  by_cases c2 : v ≤ Z.1.2.2.2.2.1
  · have e1 : rIn v 0 (sf 0) = true := by
      have : ¬ sf 0 < v := by rw [hck]; exact i_le.mp c2
      simp [rIn, c1, this]
    have e2 : rIn u 0 9 = !zOu u 10 := ou_in (u := 9) (by decide)
    by_cases c3 : zOu u 10 = true
    · rw [c3] at e2
      exact zPair_same C hPd hPm hPb (o_L_ifAsked_A3 (hlt := hlt) (h1 := c1) (h2 := c2) (h3 := c3) (hN := ad_d C) ..) (o_M_ifAsked_A2 (h1 := e1) (h2 := e2) (hN := ad_m C) ..) hp1 (fun h => absurd h (by decide))
    have c3 : zOu u 10 = false := by simpa using c3
    rw [c3] at e2
    have e3 : rIn w 0 2 = !zOu w 3 := ou_in (u := 2) (by decide)
    by_cases c4 : zOu w 3 = true
    · rw [c4] at e3
      exact zPair_same C hPd hPm hPb (o_L_ifAsked_A4 (hlt := hlt) (h1 := c1) (h2 := c2) (h3 := c3) (h4 := c4) (hN := ad_d C) ..) (o_M_ifAsked_A3 (h1 := e1) (h2 := e2) (h3 := e3) (hN := ad_m C) ..) hp1 (fun h => absurd h (by decide))
    have c4 : zOu w 3 = false := by simpa using c4
    rw [c4] at e3
    obtain ⟨j, hw, rfl⟩ := ou_n (u := 3) (by decide) c4
    have h0 : 0 ≤ v := i_le.mpr c1
    by_cases c5 : z = 0
    · subst c5
      exact zPair_same C hPd hPm hPb (o_L_ifAsked_C0 (hw := hw) (h1 := c1) (h2 := c2) (h3 := c3) (hN := ad_d C) ..) (o_M_ifAsked_C0 (hw := hw) (h1 := e1) (h2 := e2) (hN := ad_m C) ..) hp1 (fun _ => (ua _ _).trans (congrArg Int32.toInt64 (r_ans hZ.1 hZ.2.1 hR.1 h0 u hw).symm))
    by_cases c6 : z = 1
    · subst c6
      exact zPair_same C hPd hPm hPb (o_L_ifAsked_C1 (hw := hw) (h1 := c1) (h2 := c2) (h3 := c3) (hN := ad_d C) ..) (o_M_ifAsked_C1 (hw := hw) (h1 := e1) (h2 := e2) (hN := ad_m C) ..) hp1 (fun _ => (ua _ _).trans (congrArg Int32.toInt64 (r_cost hZ.1 hZ.2.1 hR.1 h0 u hw).symm))
    have e4 : rIn z 0 1 = false := by
      have e5 : rIn z 0 1 = !zOu z 2 := ou_in (u := 1) (by decide)
      by_cases c7 : zOu z 2 = true
      · rw [e5, c7]; rfl
      · obtain ⟨b, hb, rfl⟩ := ou_n (u := 2) (by decide) (Bool.eq_false_iff.mpr c7)
        rcases (show b = 0 ∨ b = 1 by omega) with rfl | rfl
        · exact absurd rfl c5
        · exact absurd rfl c6
    exact zPair_same C hPd hPm hPb (o_L_ifAsked_A5 (hlt := hlt) (hw := hw) (h1 := c1) (h2 := c2) (h3 := c3) (h5 := c5) (h6 := c6) (hN := ad_d C) ..) (o_M_ifAsked_A4 (h1 := e1) (h2 := e2) (h3 := e3) (h4 := e4) (hN := ad_m C) ..) hp1 (fun h => absurd h (by decide))
  · exact zPair_same C hPd hPm hPb (o_L_ifAsked_A2 (hlt := hlt) (h1 := c1) (h2 := c2) (hN := ad_d C) ..) (o_M_ifAsked_A1 (h1 := by
      have : sf 0 < v := by rw [hck]; exact i_lt.mpr c2
      simp [rIn, this]) (hN := ad_m C) ..) hp1 (fun h => absurd h (by decide))
theorem pr_lies (hlt : l.stackTraces = false) (C : zAD y a h x o r rB F N) (ht : t < 512) (hI : zLI D ca y a h x o r rB F t ov thr H) (v : Int32) : zPair l D ca y a h x o r rB F N t yL_lies cL_lies 4 [(0, 9, 12, 13)] yX7_lies cX7_lies 2 [.ref (y 0), .int v, .ref (r 0)] [.int v] H := by
  obtain ⟨Z, G, nx, sz, g, n, i, q, pl, dg, sf, sv, i2, wl, rm, rd, hh, hp, hPd, hPm, hPb⟩ := hI
  have hp1 := hp.next
  obtain ⟨hR, hZ, hS, hn, hg, hpl, hdg⟩ := id hp
  have e1 : rIn v 0 9 = !zOu v 10 := ou_in (u := 9) (by decide)
  by_cases c1 : zOu v 10 = true
  · rw [c1] at e1
    exact zPair_same C hPd hPm hPb (o_L_lies_A (hlt := hlt) (h1 := c1) (hN := ad_d C) ..) (o_M_lies_A (hv := e1) (hN := ad_m C) ..) hp1 (fun h => absurd h (by decide))
  have c1 : zOu v 10 = false := by simpa using c1
  rw [c1] at e1
  exact zPair_same C hPd hPm hPb (o_L_lies_C (h1 := c1) (hN := ad_d C) ..) (o_M_lies_C (hv := e1) (hN := ad_m C) ..) hp1 (fun _ => (ua _ _).trans (congrArg Int32.toInt64 (r_lie hZ.1 hR.1 v).symm))
theorem pr_cheapest (hlt : l.stackTraces = false) (C : zAD y a h x o r rB F N) (ht : t < 512) (hI : zLI D ca y a h x o r rB F t ov thr H) (v : Int32) : zPair l D ca y a h x o r rB F N t yL_cheapest cL_cheapest 4 [(0, 9, 12, 13)] yX7_cheapest cX7_cheapest 2 [.ref (y 0), .int v, .ref (r 0)] [.int v] H := by
  obtain ⟨Z, G, nx, sz, g, n, i, q, pl, dg, sf, sv, i2, wl, rm, rd, hh, hp, hPd, hPm, hPb⟩ := hI
  have hp1 := hp.next
  obtain ⟨hR, hZ, hS, hn, hg, hpl, hdg⟩ := id hp
  have e1 : rIn v 0 9 = !zOu v 10 := ou_in (u := 9) (by decide)
  by_cases c1 : zOu v 10 = true
  · rw [c1] at e1
    exact zPair_same C hPd hPm hPb (o_L_cheapest_A (hlt := hlt) (h1 := c1) (hN := ad_d C) ..) (o_M_cheapest_A (hv := e1) (hN := ad_m C) ..) hp1 (fun h => absurd h (by decide))
  have c1 : zOu v 10 = false := by simpa using c1
  rw [c1] at e1
  obtain ⟨cc, hc1, hc2⟩ := hZ.2.2.1
  exact zPair_same C hPd hPm hPb (o_L_cheapest_C (h1 := c1) (hN := ad_d C) ..) (o_M_cheapest_C (hv := e1) (hN := ad_m C) ..) hp1 (fun _ => (ua _ _).trans (congrArg (fun k => Int32.toInt64 (nI k)) (r_lc hZ.1 hZ.2.1 hR.1 (by rw [hc2]; exact nI_pos' (by omega)) v).symm))
theorem pr_sweepAll (C : zAD y a h x o r rB F N) (ht : t < 512) (hI : zLI D ca y a h x o r rB F t ov thr H) : zPairD l D ca y a h x o r rB F N t yX6_sweepAll cX6_sweepAll 3 yX7_sweepAll cX7_sweepAll 2 H := by
  obtain ⟨Z, G, nx, sz, g, n, i, q, pl, dg, sf, sv, i2, wl, rm, rd, hh, hp, hPd, hPm, hPb⟩ := hI
  have hp1 := hp.next
  obtain ⟨hR, hZ, hS, hn, hg, hpl, hdg⟩ := id hp
  obtain ⟨a1, a2⟩ := rs_sweepAll (by omega) hZ hR
  obtain ⟨s1, s2⟩ := sr_save hS hZ hR
  have hx := hS.1
  have hM := o_M_sweepAll (l := l) (D := D) (ca := ca) (o := o) (thr := thr) (sf := sf) (sv := sv) (n := n) (i := i2) (wl := wl) (rm := rm) (g := g) (rd := rd) (hh := hh) (h0 := hS.2.1) (hN := ad_m C)
  rw [s2, r_mp a1.1] at hM
  exact ⟨_, _, _, _, _, _, o_X_sweepAll (hnx := hS.1) (hsz := hS.2.1) (hF := ad_F C hS.1) (hT := rfl) (hN := ad_b C hS.1) .., ad_nb C hx, (hPb nx hx).app hPd, hM, fun H1 k1 => hPm.kp k1 rfl (ad_mb C hx), fun H1 H2 h1 k1 h2 k2 => ⟨_, _, li_save C hPb hx (G' := zGu G nx Z) ⟨if_pos rfl, fun j _ e => if_neg e⟩ ⟨a1, a2.mono (by omega), s1.mono (by omega), hn, hg, hpl, hdg⟩ h1 k1 h2 k2⟩⟩
theorem pr_clearBuffer (C : zAD y a h x o r rB F N) (ht : t < 512) (hI : zLI D ca y a h x o r rB F t ov thr H) : zPairD l D ca y a h x o r rB F N t yX6_clearBuffer cX6_clearBuffer 1 yX7_clearBuffer cX7_clearBuffer 2 H := by
  obtain ⟨Z, G, nx, sz, g, n, i, q, pl, dg, sf, sv, i2, wl, rm, rd, hh, hp, hPd, hPm, hPb⟩ := hI
  have hp1 := hp.next
  obtain ⟨hR, hZ, hS, hn, hg, hpl, hdg⟩ := id hp
  exact ⟨_, _, _, _, _, _, o_X_clearBuffer (hn := hn) (hg := hg) (hN := ad_d C) .., ad_nd C, hPd, o_M_clearBuffer (h0 := hn) (hN := ad_m C) .., fun H1 k1 => hPm.kp k1 rfl (ad_md C), fun H1 H2 h1 k1 h2 k2 => ⟨_, _, li_same C hPb ⟨hp1.1, hp1.2.1, hp1.2.2.1, Nat.zero_le _, hg, hpl, hdg⟩ h1 k1 h2 k2⟩⟩
theorem pr_firstError (C : zAD y a h x o r rB F N) (ht : t < 512) (hI : zLI D ca y a h x o r rB F t ov thr H) : zPairD l D ca y a h x o r rB F N t yX6_firstError cX6_firstError 1 yX7_firstError cX7_firstError 1 H := by
  obtain ⟨Z, G, nx, sz, g, n, i, q, pl, dg, sf, sv, i2, wl, rm, rd, hh, hp, hPd, hPm, hPb⟩ := hI
  have hp1 := hp.next
  obtain ⟨hR, hZ, hS, hn, hg, hpl, hdg⟩ := id hp
  have hok := ra_ok hg hn q pl dg rd
  have hb := zRa_ok (g := g) (n := n) (q := q) hpl hdg
  have hM := o_M_firstError (l := l) (D := D) (ca := ca) (o := o) (thr := thr) (sf := sf) (sv := sv) (mm := sz) (i := i2) (wl := wl) (rm := rm) (rd := rd) (hh := hh) (h0 := hn) (h1 := hg) (hN := ad_m C)
  generalize hA : (rRa g n rd).1 = A at hM
  obtain rfl : A = (zRa g n q pl dg).2.1 := hA.symm.trans hok.1
  exact ⟨_, _, _, _, _, _, o_X_firstError (hn := hn) (hg := hg) (hN := ad_d C) .., ad_nd C, hPd, hM, fun H1 k1 => hPm.kp k1 rfl (ad_md C), fun H1 H2 h1 k1 h2 k2 => ⟨_, _, li_same C hPb ⟨hp1.1, hp1.2.1, hp1.2.2.1, hn, hg, hb.2.1, hb.2.2⟩ h1 k1 h2 k2⟩⟩
theorem pr_holder (C : zAD y a h x o r rB F N) (ht : t < 512) (hI : zLI D ca y a h x o r rB F t ov thr H) : ∃ v, zPairR l D ca y a h x o r rB F N t .int (.int v) yX6_holder cX6_holder 1 yX7_holder cX7_holder 1 H := by
  obtain ⟨Z, G, nx, sz, g, n, i, q, pl, dg, sf, sv, i2, wl, rm, rd, hh, hp, hPd, hPm, hPb⟩ := hI
  have hp1 := hp.next
  obtain ⟨hR, hZ, hS, hn, hg, hpl, hdg⟩ := id hp
  have hM := o_M_holder (l := l) (D := D) (ca := ca) (o := o) (thr := thr) (sf := sf) (sv := sv) (mm := sz) (n := n) (i := i2) (wl := wl) (rm := rm) (g := g) (rd := rd) (hh := hh) (hN := ad_m C)
  rw [r_ho hZ.1 hR] at hM
  exact ⟨_, _, _, _, o_X_holder .., hPd, hM, hPm, fun H2 h2 k2 => ⟨_, _, Z, G, nx, sz, g, n, i, q, pl, dg, sf, sv, _, _, _, _, _, hp1, hPd.kp k2 rfl (ad_dm C), h2, fun j hj => (hPb j hj).kp k2 rfl (ad_bm C hj)⟩⟩
theorem pr_marked (C : zAD y a h x o r rB F N) (ht : t < 512) (hI : zLI D ca y a h x o r rB F t ov thr H) : ∃ v, zOk v ∧zPairR l D ca y a h x o r rB F N t .double (.double v) yX6_marked cX6_marked 1 yX7_marked cX7_marked 1 H := by
  obtain ⟨Z, G, nx, sz, g, n, i, q, pl, dg, sf, sv, i2, wl, rm, rd, hh, hp, hPd, hPm, hPb⟩ := hI
  have hp1 := hp.next
  obtain ⟨hR, hZ, hS, hn, hg, hpl, hdg⟩ := id hp
  have hk := (mp_ok Z.1).1
  have hM := o_M_marked (l := l) (D := D) (ca := ca) (o := o) (thr := thr) (sf := sf) (sv := sv) (mm := sz) (n := n) (i := i2) (wl := wl) (rm := rm) (g := g) (rd := rd) (hh := hh) (hok := by rw [r_mp hR.1]; exact hk) (hN := ad_m C)
  rw [r_mp hR.1] at hM
  exact ⟨_, hk, _, _, _, o_X_marked (hok := hk) .., hPd, hM, hPm, fun H2 h2 k2 => ⟨_, _, Z, G, nx, sz, g, n, i, q, pl, dg, sf, sv, _, _, _, _, _, hp1, hPd.kp k2 rfl (ad_dm C), h2, fun j hj => (hPb j hj).kp k2 rfl (ad_bm C hj)⟩⟩
theorem pr_digest (C : zAD y a h x o r rB F N) (ht : t < 512) (hI : zLI D ca y a h x o r rB F t ov thr H) : ∃ v, zPairR l D ca y a h x o r rB F N t .long (.long v) yX6_digest cX6_digest 4 yX7_digest cX7_digest 2 H := by
  obtain ⟨Z, G, nx, sz, g, n, i, q, pl, dg, sf, sv, i2, wl, rm, rd, hh, hp, hPd, hPm, hPb⟩ := hI
  have hp1 := hp.next
  obtain ⟨hR, hZ, hS, hn, hg, hpl, hdg⟩ := id hp
  have hk := mp_ok Z.1
  obtain ⟨cc, hc1, hc2⟩ := hZ.2.2.1
  have hM := o_M_digest (l := l) (D := D) (ca := ca) (o := o) (thr := thr) (sf := sf) (sv := sv) (i := i2) (wl := wl) (rm := rm) (rd := rd) (hh := hh) (h0 := hS.2.1) (h1 := hn) (h2 := hg) (hok := by rw [r_mp hR.1]; exact hk.1) (hN := ad_m C)
  generalize hA : rDig sf sz g n = A at hM
  obtain rfl : A = zDig Z sz g n := hA.symm.trans (r_dig hZ.1 hZ.2.1 hR (by rw [hc2]; exact nI_pos' (by omega)) sz g n)
  exact ⟨_, _, _, _, o_X_digest (hsz := hS.2.1) (hn := hn) (hg := hg) (hok := hk.1) (hm := hk.2) .., hPd, hM, hPm, fun H2 h2 k2 => ⟨_, _, Z, G, nx, sz, g, n, i, q, pl, dg, sf, sv, _, _, _, _, _, hp1, hPd.kp k2 rfl (ad_dm C), h2, fun j hj => (hPb j hj).kp k2 rfl (ad_bm C hj)⟩⟩

end PAIR
