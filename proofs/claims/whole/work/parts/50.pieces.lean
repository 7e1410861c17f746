/-! pieces -/
theorem tw_itfold {α : Type} (f : Nat → α → α) : ∀ (n : Nat) (a : α), tq_it f n 0 a = (List.range n).foldl (fun a i => f i a) a
  | 0, _ => rfl
  | n + 1, a => by
    rw [List.range_succ, List.foldl_append, ← tw_itfold f n a, tw_ita f n 1]
    rw [Nat.zero_add]
    rfl
theorem tw_itfilter {α : Type} {p : Nat → Bool} {f : Nat → α → α} {g : Nat → α → α} (h0 : p 0 = false) (hf : ∀ i a, f i a = if p (1 + i) = true then g (1 + i) a else a) (n : Nat) (a : α) : tq_it f n 0 a = ((List.range (n + 1)).filter p).foldl (fun a q => g q a) a := by
  rw [tw_itfold]
  induction n with
  | zero => simp [List.range_succ, h0]
  | succ n ih =>
    rw [List.range_succ (n := n + 1), List.filter_append, List.foldl_append, ← ih, List.range_succ, List.foldl_append]
    show f n _ = _
    rw [hf, show 1 + n = n + 1 by omega]
    by_cases hp : p (n + 1) = true
    · rw [if_pos hp]; simp [hp]
    · rw [if_neg hp]; simp [hp]
theorem tw_btN {n i : Nat} (hi : i < 32) : bt (nI n) i = Nat.testBit n i := by
  unfold bt
  show (BitVec.ofNat 32 n).getLsbD i = _
  rw [BitVec.getLsbD_ofNat]
  simp [hi]
/-- pieces so far -/
def tw_pcs (a b : tq_I) (p : Nat) : Prop := a 102 5 = nI p ∧ b 117 15 = nI p ∧ ∀ q, q < p → (0 ≤ (a 106 q).toInt ∧ (a 106 q).toInt ≤ 383) ∧ b 127 q = nI (tw_rc (tq_N (a 106 q)))
theorem tw_codeA : ∀ t, t < 6 → ∀ tile, tile < 14 → ∀ way, way < 4 → (0 ≤ (r_X11_codeOfPiece (nI t) (nI (tile + 1)) (nI way) (nI 0)).toInt ∧ (r_X11_codeOfPiece (nI t) (nI (tile + 1)) (nI way) (nI 0)).toInt ≤ 383) ∧ ((((nI t) + ((nI 8) * (nI (tile + 1)))) + ((nI 128) * (nI way))) + ((nI 512) * (nI 0))) = nI (tw_rc (tq_N (r_X11_codeOfPiece (nI t) (nI (tile + 1)) (nI way) (nI 0)))) := by decide +kernel
theorem tw_codeB : ∀ t, t < 6 → ∀ v, v < 8 → (0 ≤ (r_X11_codeOfPiece (nI t) (nI 15) (nI 0) (nI v)).toInt ∧ (r_X11_codeOfPiece (nI t) (nI 15) (nI 0) (nI v)).toInt ≤ 383) ∧ ((((nI t) + ((nI 8) * (nI 15))) + ((nI 128) * (nI 0))) + ((nI 512) * (nI v))) = nI (tw_rc (tq_N (r_X11_codeOfPiece (nI t) (nI 15) (nI 0) (nI v)))) := by decide +kernel
theorem tw_fl15 : ∀ q, q < 16 → ∀ i, i < 4 → tm_fl q i = 15 → q = 15 := by decide +kernel
theorem tw_fl15' : tm_fl 15 0 = 15 := by decide +kernel
/-- what the class does for one part -/
def tw_push (x y t : Nat) (q : Nat) (a : tq_I) : tq_I := (if (nI 7) ≤ (a 102 5) then a else (if (r_X10_flip (nI q) (r_X10_wayOf a t q)) = (nI 15) then (tq_u (tq_u a 106 (tq_N (a 102 5)) (r_X11_codeOfPiece (nI t) (r_X10_flip (nI q) (r_X10_wayOf a t q)) (r_X10_wayOf a t q) (r_X6_variantOf a t x y))) 102 5 (((tq_u a 106 (tq_N (a 102 5)) (r_X11_codeOfPiece (nI t) (r_X10_flip (nI q) (r_X10_wayOf a t q)) (r_X10_wayOf a t q) (r_X6_variantOf a t x y))) 102 5) + (nI 1))) else (tq_u (tq_u a 106 (tq_N (a 102 5)) (r_X11_codeOfPiece (nI t) (r_X10_flip (nI q) (r_X10_wayOf a t q)) (r_X10_wayOf a t q) (nI 0))) 102 5 (((tq_u a 106 (tq_N (a 102 5)) (r_X11_codeOfPiece (nI t) (r_X10_flip (nI q) (r_X10_wayOf a t q)) (r_X10_wayOf a t q) (nI 0))) 102 5) + (nI 1)))))
theorem tw_dpfold {a : tq_I} {x y t m n : Nat} {ps : Int32} (hps : ps = nI n) (h0 : Nat.testBit n 0 = false) : tq_it (f_dp1 x y t m ps) 15 0 a = ((List.range 16).filter (fun q => Nat.testBit n q)).foldl (fun a q => tw_push x y t q a) a := by
  have hf : ∀ i, i < 15 → ∀ b, f_dp1 x y t m ps i b = if Nat.testBit n (1 + i) = true then tw_push x y t (1 + i) b else b := fun i hi b => by
    unfold f_dp1 tw_push
    have e : (((ps >>> ((nI (1 + i)) &&& 31)) &&& (nI 1)) = (nI 1)) ↔ Nat.testBit n (1 + i) = true := by
      rw [← tw_btN (n := n) (i := 1 + i) (by omega), ← hps]
      exact tq_bit (by omega)
    by_cases hc : Nat.testBit n (1 + i) = true
    · rw [if_pos hc, if_neg (fun q => tq_b0.mp q (e.mpr hc))]
    · rw [if_neg hc, if_pos (tq_b0.mpr (fun q => hc (e.mp q)))]
  rw [tq_itC (g := fun i b => if Nat.testBit n (1 + i) = true then tw_push x y t (1 + i) b else b) 15 (fun i b hi => hf i hi b) 15 0 a (by decide)]
  exact tw_itfilter (p := fun q => Nat.testBit n q) (g := fun q b => tw_push x y t q b) h0 (fun i b => rfl) 15 a
theorem tw_var {a b : tq_I} {x y t : Nat} (h1 : a 8 t = b 118 (16 + t)) (h2 : 1 ≤ (a 8 t).toInt ∧ (a 8 t).toInt ≤ 8) (h3 : a 5 4 = b 118 2) : r_X6_variantOf a t x y = r_X12_variantOf b x y t ∧ ∃ v, v < 8 ∧ r_X6_variantOf a t x y = nI v := by
  refine ⟨?_, tm_var h2⟩
  unfold r_X6_variantOf r_X12_variantOf
  rw [← h1, ← h3]
  split
  · rfl
  · rename_i hn
    have e : a 8 t = nI 1 := by
      rw [Int32.lt_iff_toInt_lt, show (nI 1).toInt = 1 by decide] at hn
      exact tq_eqI (by omega) (by decide)
    rw [e, tm_rem (tm_ush1 _) (by decide) (by decide), Nat.mod_one]
/-- one part, on both sides -/
theorem tw_push1 {a b : tq_I} {x y t q p i k pm : Nat} (ht : t ≤ 5) (hq : q < 16) (h1 : 1 ≤ q) (hp : p < 7) (hpc : tw_pcs a b p) (hd : tm_draw (a 10 t) q) (h15 : bt (a 10 t) 15 = true) (e10 : a 10 t = b 118 (10 + t)) (e8 : a 8 t = b 118 (16 + t)) (h8 : 1 ≤ (a 8 t).toInt ∧ (a 8 t).toInt ≤ 8) (e5 : a 5 4 = b 118 2) (eq : b 124 i = nI q) : tw_pcs (tw_push x y t q a) (f_mfp1 x y k t pm i b) (p + 1) ∧ (∀ cz, cz ≠ 102 → cz ≠ 106 → ∀ j, tw_push x y t q a cz j = a cz j) ∧ (∀ j, j ≠ 5 → tw_push x y t q a 102 j = a 102 j) ∧ (∀ cz, cz ≠ 117 → cz ≠ 127 → ∀ j, f_mfp1 x y k t pm i b cz j = b cz j) ∧ ∀ j, j ≠ 15 → f_mfp1 x y k t pm i b 117 j = b 117 j := by
  obtain ⟨p1, p2, p3⟩ := hpc
  have n7 : ¬ nI 7 ≤ a 102 5 := fun z => by rw [p1, nI_leI (by omega) (by omega)] at z; omega
  obtain ⟨v1, v, hv, v2⟩ := tw_var (x := x) (y := y) e8 h8 e5
  -- the way
  obtain ⟨wy, hwy, w1, w2⟩ : ∃ wy, wy < 4 ∧ r_X10_wayOf a t q = nI wy ∧ (tm_fl q wy = 15 → wy = 0) := by
    rcases tq_way (I := a) (t := t) hq with ⟨z1, -⟩ | ⟨wy, z1, z2, z3, z4⟩
    · exact absurd z1 ((tm_draw_iff hq).mpr hd)
    · refine ⟨wy, z1, z2, fun z => ?_⟩
      rcases Nat.eq_zero_or_pos wy with h | h
      · exact h
      · have e := tw_fl15 q hq wy z1 z
        subst e
        have := z4 0 h
        rw [tw_fl15', h15] at this
        cases this
  have w3 : r_X12_wayOf b t (b 124 i) = nI wy := by rw [eq, ← tw_wayE e10 hq]; exact w1
  have w4 : r_X10_flip (nI q) (nI wy) = nI (tm_fl q wy) := tm_fl_eq hq hwy
  have w5 : r_X12_flipped (b 124 i) (nI wy) = nI (tm_fl q wy) := by rw [eq, tw_flip q hq wy hwy]; exact w4
  have w6 := tm_fl_lt hq hwy
  have w7 := tm_fl_pos hq hwy h1
  -- both codes
  have gen : ∀ (cd pc : Int32), (0 ≤ cd.toInt ∧ cd.toInt ≤ 383) → pc = nI (tw_rc (tq_N cd)) → tw_pcs (tq_u (tq_u a 106 p cd) 102 5 (nI (p + 1))) (tq_u (tq_u b 127 p pc) 117 15 (nI (p + 1))) (p + 1) := by
    intro cd pc hcd hpc
    refine ⟨tq_u_same, tq_u_same, fun z hz => ?_⟩
    rw [tq_u_cell (show (106 : Nat) ≠ 102 by decide), tq_u_cell (show (127 : Nat) ≠ 117 by decide)]
    by_cases e : z = p
    · rw [e, tq_u_same, tq_u_same]; exact ⟨hcd, hpc⟩
    · rw [tq_u_slot e, tq_u_slot e]; exact p3 z (by omega)
  by_cases c15 : tm_fl q wy = 15
  · have hw0 := w2 c15
    subst hw0
    have eA : tw_push x y t q a = tq_u (tq_u a 106 p (r_X11_codeOfPiece (nI t) (nI 15) (nI 0) (nI v))) 102 5 (nI (p + 1)) := by
      unfold tw_push
      rw [if_neg n7, w1, w4, c15, if_pos rfl, v2, p1, tq_N_nI (by omega), tq_u_cell (by decide), p1, nI_add]
    have eB : f_mfp1 x y k t pm i b = tq_u (tq_u b 127 p ((((nI t) + ((nI 8) * (nI 15))) + ((nI 128) * (nI 0))) + ((nI 512) * (nI v)))) 117 15 (nI (p + 1)) := by
      unfold f_mfp1
      rw [w3, w5, c15, if_pos rfl, ← v1, v2, p2, tq_N_nI (by omega), tq_u_cell (by decide), p2, nI_add]
    obtain ⟨z1, z2⟩ := tw_codeB t (by omega) v hv
    rw [eA, eB]
    exact ⟨gen _ _ z1 z2, fun cz g1 g2 j => by rw [tq_u_cell g1, tq_u_cell g2], fun j hj => by rw [tq_u_slot hj, tq_u_cell (by decide)], fun cz g1 g2 j => by rw [tq_u_cell g1, tq_u_cell g2], fun j hj => by rw [tq_u_slot hj, tq_u_cell (by decide)]⟩
  · have n15 : ¬ nI (tm_fl q wy) = nI 15 := fun z => c15 ((nI_eq (by omega) (by omega)).mp z)
    have eA : tw_push x y t q a = tq_u (tq_u a 106 p (r_X11_codeOfPiece (nI t) (nI (tm_fl q wy)) (nI wy) (nI 0))) 102 5 (nI (p + 1)) := by
      unfold tw_push
      rw [if_neg n7, w1, w4, if_neg n15, p1, tq_N_nI (by omega), tq_u_cell (by decide), p1, nI_add]
    have eB : f_mfp1 x y k t pm i b = tq_u (tq_u b 127 p ((((nI t) + ((nI 8) * (nI (tm_fl q wy)))) + ((nI 128) * (nI wy))) + ((nI 512) * (nI 0)))) 117 15 (nI (p + 1)) := by
      unfold f_mfp1
      rw [w3, w5, if_neg n15, p2, tq_N_nI (by omega), tq_u_cell (by decide), p2, nI_add]
    obtain ⟨z1, z2⟩ := tw_codeA t (by omega) (tm_fl q wy - 1) (by omega) wy hwy
    rw [show tm_fl q wy - 1 + 1 = tm_fl q wy by omega] at z1 z2
    rw [eA, eB]
    exact ⟨gen _ _ z1 z2, fun cz g1 g2 j => by rw [tq_u_cell g1, tq_u_cell g2], fun j hj => by rw [tq_u_slot hj, tq_u_cell (by decide)], fun cz g1 g2 j => by rw [tq_u_cell g1, tq_u_cell g2], fun j hj => by rw [tq_u_slot hj, tq_u_cell (by decide)]⟩
theorem tw_takes {l : List Nat} {k : Nat} {α : Type} {f : α → Nat → α} {a : α} (hk : k < l.length) : (l.take (k + 1)).foldl f a = f ((l.take k).foldl f a) (l.getD k 0) := by
  rw [List.take_succ, List.foldl_append, List.getElem?_eq_getElem hk, List.getD_eq_getElem?_getD, List.getElem?_eq_getElem hk]
  rfl
/-- all parts of one layer -/
theorem tw_layer1 {A B a b : tq_I} {w h o c L : Nat} (k : tw_inv A B w h o c L) {x y t m p i : Nat} (ht : t ≤ 5) (hm : m < 16) (h1 : 1 ≤ m) (hpc : tw_pcs a b p) (hp : p + tw_pcn m ≤ 7) (hA : ∀ cz, cz < 99 → ∀ j, a cz j = A cz j) (hB : ∀ j, b 118 j = B 118 j) : ∃ p', p ≤ p' ∧ p' ≤ p + tw_pcn m ∧ tw_pcs (I_X7_drawPieces a x y t m) (tq_it (f_mfp1 x y i t (tq_N (I_X12_finds b t m 117 10))) (tq_N (I_X12_finds b t m 117 10)) 0 (I_X12_finds b t m)) p' := by
  -- the reference finds on b what it finds on B
  obtain ⟨⟨h15, b0, hb, h2, h3⟩, e10, e8, h8⟩ := k.U (show t < 6 by omega)
  have hd : ∀ z, 1 ≤ z → z < 16 → (tm_draw (A 10 t) z ↔ Nat.testBit (tq_dr b0) z = true) := fun z g1 g2 => by rw [← tw_drbt b0 hb z g2]; exact (h2 z g1 g2).symm
  obtain ⟨f1, f2⟩ := tw_finds (B := b) hb ht hm h1 (fun I hI z g1 g2 => by rw [tw_drawW g2, hI, hB, ← e10]; exact hd z g1 g2)
  obtain ⟨l1, l2, l3, l4, l5, l6⟩ := tw_fnd_ok b0 hb (m - 1) (by omega)
  have l7 := tw_fnd_pc b0 hb (m - 1) (by omega)
  rw [show m - 1 + 1 = m by omega] at l1 l2 l3 l4 l5 l6 l7
  have ea : a 11 (t * 16 + m) = nI (tq_ft b0 m) := by rw [hA 11 (by decide)]; exact h3 m h1 hm
  have t0 : Nat.testBit (tq_ft b0 m) 0 = false := by
    cases hz : Nat.testBit (tq_ft b0 m) 0 with
    | false => rfl
    | true =>
      have : 0 ∈ tw_fnd b0 m := by rw [← l5]; exact List.mem_filter.mpr ⟨List.mem_range.mpr (by decide), hz⟩
      have := List.all_eq_true.mp l4 0 this
      simp at this
  unfold I_X7_drawPieces
  rw [tw_dpfold ea t0, l5, f1, tq_N_nI (by omega)]
  generalize hl : tw_fnd b0 m = l at *
  have key : ∀ z, z ≤ l.length → tw_pcs ((l.take z).foldl (fun a q => tw_push x y t q a) a) (tq_it (f_mfp1 x y i t l.length) z 0 (I_X12_finds b t m)) (p + z) ∧ (∀ cz, cz < 99 → ∀ j, (l.take z).foldl (fun a q => tw_push x y t q a) a cz j = A cz j) ∧ (∀ j, tq_it (f_mfp1 x y i t l.length) z 0 (I_X12_finds b t m) 118 j = B 118 j) ∧ ∀ j, tq_it (f_mfp1 x y i t l.length) z 0 (I_X12_finds b t m) 124 j = I_X12_finds b t m 124 j := by
    intro z
    induction z with
    | zero =>
      intro _
      refine ⟨⟨hpc.1, by show I_X12_finds b t m 117 15 = _; rw [fs_finds _ _ _ _ (by decide)]; exact hpc.2.1, fun q hq => ⟨(hpc.2.2 q hq).1, by show I_X12_finds b t m 127 q = _; rw [fr_X12_finds _ _ _ (by decide)]; exact (hpc.2.2 q hq).2⟩⟩, hA, fun j => by show I_X12_finds b t m 118 j = _; rw [fr_X12_finds _ _ _ (by decide)]; exact hB j, fun j => rfl⟩
    | succ z ih =>
      intro hz
      obtain ⟨i1, i2, i3, i4⟩ := ih (by omega)
      have hmem : l.getD z 0 ∈ l := by rw [List.getD_eq_getElem?_getD, List.getElem?_eq_getElem (by omega)]; exact List.getElem_mem _
      have hq := List.all_eq_true.mp l4 _ hmem
      simp only [Bool.and_eq_true, decide_eq_true_eq] at hq
      rw [tw_takes (by omega), tw_ita _ z 1]
      show tw_pcs (tw_push x y t (l.getD z 0) _) (f_mfp1 x y i t l.length (0 + z) _) (p + (z + 1)) ∧ _
      rw [Nat.zero_add]
      generalize (l.take z).foldl (fun a q => tw_push x y t q a) a = a1 at *
      generalize tq_it (f_mfp1 x y i t l.length) z 0 (I_X12_finds b t m) = b1 at *
      obtain ⟨j1, j2, j3, j4, j5⟩ := tw_push1 (a := a1) (b := b1) (x := x) (y := y) (t := t) (q := l.getD z 0) (p := p + z) (i := z) (k := i) (pm := l.length) ht hq.1.2 hq.1.1 (by omega) i1 (by rw [i2 10 (by decide)]; exact (hd _ hq.1.1 hq.1.2).mpr hq.2) (by rw [i2 10 (by decide)]; exact h15) (by rw [i2 10 (by decide), i3]; exact e10) (by rw [i2 8 (by decide), i3]; exact e8) (by rw [i2 8 (by decide)]; exact h8) (by rw [i2 5 (by decide), i3]; exact k.U2.1) (by rw [i4]; exact f2 z (by omega))
      exact ⟨j1, fun cz hc j => by rw [j2 cz (by omega) (by omega)]; exact i2 cz hc j, fun j => (j4 118 (by decide) (by decide) j).trans (i3 j), fun j => (j4 124 (by decide) (by decide) j).trans (i4 j)⟩
  have k1 := (key l.length (Nat.le_refl _)).1
  rw [List.take_length] at k1
  exact ⟨p + l.length, by omega, by omega, k1⟩
/-- the pieces of both sides -/
theorem tw_pieces {A B : tq_I} {w h o c L : Nat} (k : tw_inv A B w h o c L) {x y : Nat} (hx : x < w) (hy : y < h) : ∃ p, p ≤ 7 ∧ tw_pcs (I_X7_draw A x y) (I_X12_findsPieces B x y w h) p := by
  obtain ⟨n, hn, y1, y2, y3, y4⟩ := tw_lyr k hx hy
  have s1 := tq_dlP_draw (x := x) (y := y) k.ok.r7
  have s2 := tm_dl1_draw (x := x) (y := y) k.ok.r7
  unfold I_X7_draw I_X12_findsPieces
  rw [y1, y2, tq_N_nI (by omega)]
  have fA : ∀ cz, cz < 99 → ∀ j, I_X7_drawLayers A x y cz j = A cz j := fun cz hz j => fr_X7_drawLayers A x y (by omega) j
  have fB : ∀ j, I_X12_findsLayers B x y w h 118 j = B 118 j := fun j => fr_X12_findsLayers B x y w h (by decide) j
  unfold tq_dlP at s1
  unfold tm_dl1 at s2
  rw [y1, tq_N_nI (by omega)] at s1 s2
  generalize I_X7_drawLayers A x y = A1 at *
  generalize I_X12_findsLayers B x y w h = B1 at *
  have key := tw_it20 (f := f_dr1 x y n) (g := f_mfp2 x y n w h) (fun i (a b : tq_I) => (∃ p, p ≤ tw_ps (A1 105) i ∧ tw_pcs a b p) ∧ (∀ cz, cz ≠ 102 → cz ≠ 106 → ∀ j, a cz j = A1 cz j) ∧ (∀ cz, cz ≠ 117 → cz ≠ 124 → cz ≠ 127 → ∀ j, b cz j = B1 cz j)) n (tq_u A1 102 5 (nI 0)) (tq_u B1 117 15 (nI 0)) ⟨⟨0, Nat.zero_le _, tq_u_same, tq_u_same, fun q hq => absurd hq (Nat.not_lt_zero q)⟩, fun cz g1 g2 j => tq_u_cell g1, fun cz g1 g2 g3 j => tq_u_cell g1⟩ (fun i a b hi hP => by
    obtain ⟨⟨p, p1, p2⟩, p3, p4⟩ := hP
    obtain ⟨z1, z2⟩ := y4 i hi
    obtain ⟨⟨r1, r2⟩, r3, r4⟩ := s1.2.2.2 i hi
    have r5 := s2 i hi
    have t1 : tq_N (A1 104 i) ≤ 5 := by unfold tq_N; omega
    have t2 : tq_N (A1 105 i) < 16 := by unfold tq_N; omega
    have t3 : 1 ≤ tq_N (A1 105 i) := by unfold tq_N; omega
    have hle : tw_ps (A1 105) (i + 1) ≤ tw_ps (A1 105) n := tw_ps_le _ _ (by omega)
    have hps : tw_ps (A1 105) (i + 1) = tw_ps (A1 105) i + tw_pcn (tq_N (A1 105 i)) := rfl
    unfold f_dr1 f_mfp2
    have e1 : b 125 i = A1 104 i := by rw [p4 125 (by decide) (by decide) (by decide)]; exact z1.symm
    have e2 : b 126 i = A1 105 i := by rw [p4 126 (by decide) (by decide) (by decide)]; exact z2.symm
    rw [p3 104 (by decide) (by decide), p3 105 (by decide) (by decide), e1, e2]
    obtain ⟨p', g1, g2, g3⟩ := tw_layer1 k (a := a) (b := b) (x := x) (y := y) (p := p) (i := i) t1 t2 t3 p2 (by omega) (fun cz hz j => by rw [p3 cz (by omega) (by omega)]; exact fA cz hz j) (fun j => by rw [p4 118 (by decide) (by decide) (by decide)]; exact fB j)
    refine ⟨⟨p', by omega, g3⟩, fun cz c1 c2 j => ?_, fun cz c1 c2 c3 j => ?_⟩
    · rw [fr_X7_drawPieces _ _ _ _ _ ⟨c1, c2⟩]; exact p3 cz c1 c2 j
    · rw [fr_mfp1 _ _ _ _ _ ⟨c1, c3⟩, fr_X12_finds _ _ _ ⟨c1, c2⟩]; exact p4 cz c1 c2 c3 j)
  obtain ⟨⟨p, p1, p2⟩, -, -⟩ := key
  refine ⟨p, by omega, ?_, p2.2.1, fun q hq => ?_⟩
  · rw [tq_u_slot (by decide)]; exact p2.1
  · rw [tq_u_cell (by decide)]; exact p2.2.2 q hq
