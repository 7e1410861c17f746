/-! what cells should be, and whether they are -/
theorem fs_layers7 {I : tq_I} {x y w h j : Nat} (hj : j ≠ 13) : I_X12_findsLayers I x y w h 117 j = I 117 j := by
  unfold I_X12_findsLayers
  refine (tq_itP (fun b : tq_I => b 117 j = I 117 j) (fun i b hb => ?_) 6 0 _ (tq_u_slot hj))
  unfold f_mfy2
  split
  · exact hb
  · unfold tr_put
    rw [tq_u_slot hj, tq_u_cell (by decide), tq_u_cell (by decide)]
    exact hb
theorem fs_pieces7 {I : tq_I} {x y w h j : Nat} (h1 : j ≠ 10) (h2 : j ≠ 13) (h3 : j ≠ 15) : I_X12_findsPieces I x y w h 117 j = I 117 j := by
  unfold I_X12_findsPieces
  refine (tq_itP (fun b : tq_I => b 117 j = I 117 j) (fun i b hb => ?_) _ 0 _ ((tq_u_slot h3).trans (fs_layers7 h2)))
  unfold f_mfp2
  rw [fs_mfp1 _ _ _ _ h3, fs_finds _ _ _ _ h1]
  exact hb
section TWD
variable {A B A' B' : tq_I} {w h o c L : Nat}
theorem tw_inv.drA (k : tw_inv A B w h o c L) (x y : Nat) : tw_inv (I_X7_draw A x y) B w h o c L :=
  k.scr (fun cz hz j => fr_X7_draw A x y (by omega) j) (fun _ _ _ => rfl) ⟨rfl, rfl, rfl⟩ (k.mi.cong (fun cz hz j => fr_X7_draw A x y (by omega) j) ⟨rfl, rfl⟩ (fun _ _ _ => rfl))
theorem tw_inv.flB (k : tw_inv A B w h o c L) (x y : Nat) : tw_inv A (I_X12_findsLayers B x y w h) w h o c L :=
  k.scr (fun _ _ _ => rfl) (fun cz hz j => fr_X12_findsLayers B x y w h (by omega) j) ⟨fs_layers7 (by decide), fs_layers7 (by decide), fs_layers7 (by decide)⟩ (k.mi.cong (fun _ _ _ => rfl) ⟨fs_layers7 (by decide), fs_layers7 (by decide)⟩ (fun cz hz j => fr_X12_findsLayers B x y w h (by omega) j))
theorem tw_inv.fpB (k : tw_inv A B w h o c L) (x y : Nat) : tw_inv A (I_X12_findsPieces B x y w h) w h o c L :=
  k.scr (fun _ _ _ => rfl) (fun cz hz j => fr_X12_findsPieces B x y w h (by omega) j) ⟨fs_pieces7 (by decide) (by decide) (by decide), fs_pieces7 (by decide) (by decide) (by decide), fs_pieces7 (by decide) (by decide) (by decide)⟩ (k.mi.cong (fun _ _ _ => rfl) ⟨fs_pieces7 (by decide) (by decide) (by decide), fs_pieces7 (by decide) (by decide) (by decide)⟩ (fun cz hz j => fr_X12_findsPieces B x y w h (by omega) j))
theorem tw_draw3 (k : tw_inv A B w h o c L) (x y : Nat) : I_X7_draw A x y 102 3 = nI (tq_N (I_X7_drawLayers A x y 102 3)) ∧ (∀ j, I_X7_draw A x y 104 j = I_X7_drawLayers A x y 104 j) ∧ ∀ j, I_X7_draw A x y 105 j = I_X7_drawLayers A x y 105 j := by
  have q := tq_drP_it (x := x) (y := y) (tq_N (I_X7_drawLayers A x y 102 3)) 0 _ (tq_drP_0 (x := x) (y := y) k.ok.r7)
  unfold I_X7_draw
  refine ⟨?_, fun j => ?_, fun j => ?_⟩
  · rw [tq_u_slot (by decide)]; exact q.1
  · rw [tq_u_cell (by decide), fr_dr1 _ _ _ (by decide), tq_u_cell (by decide)]
  · rw [tq_u_cell (by decide), fr_dr1 _ _ _ (by decide), tq_u_cell (by decide)]
theorem tw_draw6 (k : tw_inv A B w h o c L) {x y : Nat} (hx : x < w) (hy : y < h) : I_X7_draw A x y 102 6 = r_X12_pathTileOf B (nI x) (nI y) w h := by
  unfold I_X7_draw
  rw [tq_u_same]
  have k' : tw_inv (tq_it (f_dr1 x y (tq_N (I_X7_drawLayers A x y 102 3))) (tq_N (I_X7_drawLayers A x y 102 3)) 0 (tq_u (I_X7_drawLayers A x y) 102 5 (nI 0))) B w h o c L :=
    k.scr (fun cz hz j => by rw [fr_dr1 _ _ _ (by omega), tq_u_cell (by omega), fr_X7_drawLayers _ _ _ (by omega)]) (fun _ _ _ => rfl) ⟨rfl, rfl, rfl⟩ (k.mi.cong (fun cz hz j => by rw [fr_dr1 _ _ _ (by omega), tq_u_cell (by omega), fr_X7_drawLayers _ _ _ (by omega)]) ⟨rfl, rfl⟩ (fun _ _ _ => rfl))
  exact k'.tile hx hy
theorem tw_layers (k : tw_inv A B w h o c L) (x y : Int32) : r_X11_layers A x y w h o c L = r_X12_layers B x y w h ∧ tw_inv (I_X11_layers A x y w h o c L) (I_X12_layers B x y w h) w h o c L := by
  unfold r_X11_layers r_X12_layers I_X11_layers I_X12_layers
  rw [k.cellE]
  split
  · exact ⟨rfl, k⟩
  · rename_i hc
    obtain ⟨h1, h2, -, -⟩ := k.ok.cell (tq_b10 hc)
    obtain ⟨n, hn, y1, y2, -⟩ := tw_lyr k h1 h2
    refine ⟨?_, (k.drA _ _).flB _ _⟩
    rw [(tw_draw3 k _ _).1, y1, y2, tq_N_nI (by omega)]
theorem tw_range {ly : Int32} {n : Nat} (hn : n < 1000) : (tq_b ((nI 0).toInt ≤ ly.toInt ∧ ly.toInt ≤ (nI n - nI 1).toInt) = 0) = ¬ (0 ≤ ly.toInt ∧ ly.toInt < (n : Int)) := by
  rw [tq_b0, tq_m1 (by omega), show (nI 0).toInt = 0 by decide]
  exact propext (by omega)
theorem tw_lt {ly : Int32} {n : Nat} (hn : n < 1000) : (ly < nI n) = (ly.toInt < (n : Int)) := by rw [Int32.lt_iff_toInt_lt, nI_toInt (by omega)]
theorem tw_lt0 {ly : Int32} : (ly < 0) = (ly.toInt < 0) := by rw [Int32.lt_iff_toInt_lt, Int32.toInt_zero]
theorem tw_layer (k : tw_inv A B w h o c L) (x y ly q : Int32) : r_X11_layer A x y ly q w h o c L = r_X12_layer B x y ly q w h ∧ tw_inv (I_X11_layer A x y ly q w h o c L) (I_X12_layer B x y ly q w h) w h o c L := by
  unfold r_X11_layer r_X12_layer I_X11_layer I_X12_layer
  rw [k.cellE]
  split
  · exact ⟨rfl, k⟩
  · rename_i hc
    obtain ⟨h1, h2, -, -⟩ := k.ok.cell (tq_b10 hc)
    obtain ⟨n, hn, y1, y2, -, y4⟩ := tw_lyr k h1 h2
    obtain ⟨z1, z2, z3⟩ := tw_draw3 k (tq_N x) (tq_N y)
    refine ⟨?_, by simp only [ite_self]; exact (k.drA _ _).flB _ _⟩
    rw [z1, y1, y2, tq_N_nI (by omega), z2, z3]
    simp (disch := omega) only [tw_range, tw_lt, tw_lt0]
    by_cases c1 : ly.toInt < 0
    · rw [if_pos c1, if_pos (by omega)]
    · rw [if_neg c1]
      by_cases c2 : ly.toInt < (n : Int)
      · rw [if_pos c2, if_neg (show ¬ ¬ (0 ≤ ly.toInt ∧ ly.toInt < (n : Int)) by omega)]
        obtain ⟨u1, u2⟩ := y4 (tq_N ly) (by unfold tq_N; omega)
        rw [u1, u2]
        rfl
      · rw [if_neg c2, if_pos (by omega)]
theorem tw_piecesM (k : tw_inv A B w h o c L) (x y : Int32) : r_X11_pieces A x y w h o c L = r_X12_pieces B x y w h ∧ tw_inv (I_X11_pieces A x y w h o c L) (I_X12_pieces B x y w h) w h o c L := by
  unfold r_X11_pieces r_X12_pieces I_X11_pieces I_X12_pieces
  rw [k.cellE]
  split
  · exact ⟨rfl, k⟩
  · rename_i hc
    obtain ⟨h1, h2, -, -⟩ := k.ok.cell (tq_b10 hc)
    obtain ⟨p, hp, y1, y2, -⟩ := tw_pieces k h1 h2
    exact ⟨by rw [y1, y2], (k.drA _ _).fpB _ _⟩
theorem tw_propD {n : Nat} {q : Int32} (hn : n < 384) : r_X11_propertyOfPiece (nI n) q = if q = nI 0 ∨ q = nI 1 ∨ q = nI 2 ∨ q = nI 3 then r_X12_ofPiece (nI (tw_rc n)) q else -3 := by
  by_cases c0 : q = nI 0
  · rw [if_pos (Or.inl c0), c0]; exact tw_prop n hn 0 (by decide)
  · by_cases c1 : q = nI 1
    · rw [if_pos (Or.inr (Or.inl c1)), c1]; exact tw_prop n hn 1 (by decide)
    · by_cases c2 : q = nI 2
      · rw [if_pos (Or.inr (Or.inr (Or.inl c2))), c2]; exact tw_prop n hn 2 (by decide)
      · by_cases c3 : q = nI 3
        · rw [if_pos (Or.inr (Or.inr (Or.inr c3))), c3]; exact tw_prop n hn 3 (by decide)
        · rw [if_neg (by rintro (q | q | q | q) <;> contradiction)]
          unfold r_X11_propertyOfPiece
          simp only [if_neg c0, if_neg c1, if_neg c2, if_neg c3, ite_self]
theorem tw_q4 {q : Int32} : (nI 0).toInt ≤ q.toInt ∧ q.toInt ≤ (nI 3).toInt ↔ (q = nI 0 ∨ q = nI 1 ∨ q = nI 2 ∨ q = nI 3) := by
  rw [show (nI 0).toInt = 0 by decide, show (nI 3).toInt = 3 by decide]
  constructor
  · intro hq
    rcases (show q.toInt = ((0 : Nat) : Int) ∨ q.toInt = ((1 : Nat) : Int) ∨ q.toInt = ((2 : Nat) : Int) ∨ q.toInt = ((3 : Nat) : Int) by omega) with e | e | e | e
    · exact Or.inl (tq_eqI e (by decide))
    · exact Or.inr (Or.inl (tq_eqI e (by decide)))
    · exact Or.inr (Or.inr (Or.inl (tq_eqI e (by decide))))
    · exact Or.inr (Or.inr (Or.inr (tq_eqI e (by decide))))
  · rintro (rfl | rfl | rfl | rfl) <;> decide
theorem tw_propE {v q : Int32} (h0 : 0 ≤ v.toInt) (h1 : v.toInt ≤ 383) : r_X11_propertyOfPiece v q = if (tq_b ((nI 0).toInt ≤ q.toInt ∧ q.toInt ≤ (nI 3).toInt)) = 0 then -3 else r_X12_ofPiece (nI (tw_rc (tq_N v))) q := by
  have e := tq_nIN h0
  have hl : tq_N v < 384 := by unfold tq_N; omega
  conv => lhs; rw [e]
  rw [tw_propD hl]
  by_cases hc : (nI 0).toInt ≤ q.toInt ∧ q.toInt ≤ (nI 3).toInt
  · rw [if_pos (tw_q4.mp hc), if_neg (fun z => tq_b0.mp z hc)]
  · rw [if_neg (fun z => hc (tw_q4.mpr z)), if_pos (tq_b0.mpr hc)]
theorem tw_piece (k : tw_inv A B w h o c L) (x y ly q : Int32) : r_X11_piece A x y ly q w h o c L = r_X12_piece B x y ly q w h ∧ tw_inv (I_X11_piece A x y ly q w h o c L) (I_X12_piece B x y ly q w h) w h o c L := by
  unfold r_X11_piece r_X12_piece I_X11_piece I_X12_piece
  rw [k.cellE]
  split
  · exact ⟨rfl, k⟩
  · rename_i hc
    obtain ⟨h1, h2, -, -⟩ := k.ok.cell (tq_b10 hc)
    obtain ⟨p, hp, y1, y2, y3⟩ := tw_pieces k h1 h2
    refine ⟨?_, by simp only [ite_self]; exact (k.drA _ _).fpB _ _⟩
    rw [y1, y2]
    simp (disch := omega) only [tw_range, tw_lt, tw_lt0]
    by_cases c1 : ly.toInt < 0
    · rw [if_pos c1, if_pos (by omega)]
    · rw [if_neg c1]
      by_cases c2 : ly.toInt < (p : Int)
      · rw [if_pos c2, if_neg (show ¬ ¬ (0 ≤ ly.toInt ∧ ly.toInt < (p : Int)) by omega)]
        obtain ⟨u1, u2⟩ := y3 (tq_N ly) (by unfold tq_N; omega)
        rw [tw_propE u1.1 u1.2, u2]
      · rw [if_neg c2, if_pos (by omega)]
theorem tw_painted (k : tw_inv A B w h o c L) (x y : Int32) : r_X11_painted A x y w h o c L = r_X12_painted B x y w h := by
  unfold r_X11_painted r_X12_painted
  rw [k.cellE]
  split
  · rfl
  · rename_i hc
    obtain ⟨h1, h2, h3, h4⟩ := k.ok.cell (tq_b10 hc)
    rw [(k.V (j := tq_N y * 10 + tq_N x) (by omega)).1]
    exact tw_ix (f := B 118) (by omega)
/-! stale -/
theorem tw_shw {a b : tq_I} {cl p at_ x y : Nat} (he : ∀ i, i < p → (a 14 (cl * 7 + i) = a 106 i ↔ b 118 (at_ + 2 + i) = b 127 i)) : ∀ (n i : Nat), i + n ≤ p → tq_sr (f_shows1 a cl p) n i (nI 1) = tq_wh (f_mst1 b x y at_ p) n i (nI 1)
  | 0, _, _ => rfl
  | n + 1, i, hi => by
    have n1 : ¬ nI 1 = 0 := by decide
    by_cases hc : a 14 (cl * 7 + i) = a 106 i
    · have f1 : f_shows1 a cl p i = none := by unfold f_shows1; rw [if_pos hc]
      have f2 : f_mst1 b x y at_ p i (nI 1) = some (nI 1) := by unfold f_mst1; rw [if_neg n1, if_pos ((he i (by omega)).mp hc)]
      rw [tq_sr_none f1, tq_wh_some f2]
      exact tw_shw he n (i + 1) (by omega)
    · have f1 : f_shows1 a cl p i = some (nI 0) := by unfold f_shows1; rw [if_neg hc]
      have f2 : f_mst1 b x y at_ p i (nI 1) = some (nI 0) := by unfold f_mst1; rw [if_neg n1, if_neg (fun z => hc ((he i (by omega)).mpr z))]
      rw [tq_sr_some f1, tq_wh_some f2]
      cases n with
      | zero => rfl
      | succ n =>
        have f3 : f_mst1 b x y at_ p (i + 1) (nI 0) = none := by unfold f_mst1; rw [if_pos (by decide)]
        rw [tq_wh_none f3]
theorem tw_wh0 {b : tq_I} {x y at_ p n i : Nat} : tq_wh (f_mst1 b x y at_ p) n i (nI 0) = nI 0 := by
  cases n with
  | zero => rfl
  | succ n => exact tq_wh_none (by unfold f_mst1; rw [if_pos (by decide)])
theorem tw_staleAt (k : tw_inv A B w h o c L) {x y : Nat} (hx : x < w) (hy : y < h) : r_X11_staleAt A x y w h o c L = r_X12_isStaleAt B x y w h ∧ (r_X12_isStaleAt B x y w h = nI 0 ∨ r_X12_isStaleAt B x y w h = nI 1) := by
  have hw := k.w1
  obtain ⟨p, hp, y1, y2, y3⟩ := tw_pieces k hx hy
  have k1 := (k.drA x y).fpB x y
  have e6 := tw_draw6 (k.fpB x y) hx hy
  obtain ⟨v1, v2, v3, v4, v5⟩ := k1.V (j := y * 10 + x) (by omega)
  unfold r_X11_staleAt r_X1_shows r_X12_isStaleAt
  rw [y1, tq_N_nI (by omega), e6, show 343 + 10 * (10 * y + x) = 343 + 10 * (y * 10 + x) by omega, ← v1, ← v3, y2, tq_N_nI (by omega)]
  generalize I_X7_draw A x y = a at *
  generalize I_X12_findsPieces B x y w h = b at *
  have n1 : ¬ nI 1 = 0 := by decide
  have p0 : nI 0 = 0 := by decide
  by_cases c1 : a 13 (y * 10 + x) = nI p
  · simp only [if_pos c1]
    by_cases c2 : a 15 (y * 10 + x) = r_X12_pathTileOf b (nI x) (nI y) w h
    · simp only [if_pos c2]
      have he : ∀ i, i < p → (a 14 ((y * 10 + x) * 7 + i) = a 106 i ↔ b 118 (343 + 10 * (y * 10 + x) + 2 + i) = b 127 i) := fun i hi => by
        obtain ⟨u1, u2⟩ := v5 i (by rw [c1, tq_N_nI (by omega)]; exact hi)
        obtain ⟨t1, t2⟩ := y3 i hi
        rw [u2, t2]
        constructor
        · intro z; rw [z]
        · intro z
          have g1 : tq_N (a 14 ((y * 10 + x) * 7 + i)) < 384 := by unfold tq_N; omega
          have g2 : tq_N (a 106 i) < 384 := by unfold tq_N; omega
          have := tw_rc_inj g1 g2 (tr_inj (by have := (tw_crc _ g1).2; omega) (by have := (tw_crc _ g2).2; omega) z)
          rw [tq_nIN u1.1, tq_nIN t1.1, this]
      rw [tw_shw (x := x) (y := y) he p 0 (by omega)]
      refine ⟨rfl, ?_⟩
      split
      · exact Or.inr rfl
      · exact Or.inl rfl
    · simp only [if_neg c2, tw_wh0, if_pos p0]
      exact ⟨trivial, Or.inr trivial⟩
  · simp only [if_neg c1, tw_wh0, if_pos p0]
    exact ⟨trivial, Or.inr trivial⟩
end TWD
