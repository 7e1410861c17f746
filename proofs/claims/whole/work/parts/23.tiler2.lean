theorem tq_ok.cong {I K : tq_I} {w h o c L : Nat} (k : tq_ok I w h o c L) (hn : ∀ cz, cz ∈ [2, 3, 5, 6, 7, 13, 14, 17, 23, 39, 55, 71, 87, 99, 101, 111, 113] → ∀ jz, K cz jz = I cz jz) : tq_ok K w h o c L := by
  have e : ∀ cz, cz ∈ [2, 3, 5, 6, 7, 13, 14, 17, 23, 39, 55, 71, 87, 99, 101, 111, 113] → K cz = I cz := fun cz hz => funext fun jz => hn cz hz jz
  refine ⟨?_, ?_, ?_, ?_, ⟨?_, ?_, k.o5, k.c5, fun m hm => ?_⟩, ?_, ?_, ?_⟩
  · rw [e 2 (by decide)]; exact k.1
  · rw [e 3 (by decide)]; exact k.2.1
  · rw [e 6 (by decide), e 7 (by decide), e 5 (by decide)]; exact k.2.2.1
  · unfold tq_cv
    rw [e 13 (by decide), e 14 (by decide)]; exact k.cv
  · rw [e 17 (by decide)]; exact k.ho
  · rw [e 17 (by decide)]; exact k.hc
  · rw [e (23 + 16 * m) (by rcases (show m = 0 ∨ m = 1 ∨ m = 2 ∨ m = 3 ∨ m = 4 by omega) with rfl | rfl | rfl | rfl | rfl <;> decide)]
    exact k.hbd m hm
  · rw [e 101 (by decide), e 99 (by decide)]; exact k.2.2.2.2.2.1
  · rw [e 111 (by decide)]; exact k.2.2.2.2.2.2.1
  · rw [e 113 (by decide)]; exact k.2.2.2.2.2.2.2
theorem tq_ok.draw {I : tq_I} {w h o c L : Nat} (k : tq_ok I w h o c L) (x y : Nat) : tq_ok (I_X7_draw I x y) w h o c L := k.cong (fun cz hz jz => by
  have : cz ≠ 102 ∧ cz ≠ 103 ∧ cz ≠ 104 ∧ cz ≠ 105 ∧ cz ≠ 106 := by
    simp only [List.mem_cons, List.not_mem_nil, or_false] at hz
    omega
  exact fr_X7_draw _ _ _ this jz)
theorem tq_ok.take {I : tq_I} {w h o c L : Nat} (k : tq_ok I w h o c L) : tq_ok (I_X9_take I w h) w h o c L := k.cong (fun cz hz jz => by
  have : cz ≠ 107 ∧ cz ≠ 108 ∧ cz ≠ 109 ∧ cz ≠ 110 := by
    simp only [List.mem_cons, List.not_mem_nil, or_false] at hz
    omega
  exact fr_X9_take _ _ _ this jz)
def r_X11_staleAt (I : tq_I) (x y : Nat) (w h o c L : Nat) : Int32 := (if (r_X1_shows (I_X7_draw I x y) (y * 10 + x) (tq_N (I_X7_draw I x y 102 5))) = 0 then (nI 1) else (nI 0))
def I_X11_staleAt (I : tq_I) (x y : Nat) (w h o c L : Nat) : tq_I := (if (r_X1_shows (I_X7_draw I x y) (y * 10 + x) (tq_N (I_X7_draw I x y 102 5))) = 0 then (I_X7_draw I x y) else (I_X7_draw I x y))
set_option maxRecDepth 20000 in
theorem c_X11_staleAt (g : tq_G) (rest : List tq_S) (I : tq_I) (J : Int64) (x y : Nat) (w h o c L : Nat) (k : tq_ok I w h o c L) (hx : x < w) (hy : y < h) : CT g mX11_staleAt 6 0 0 [.ref 0, .int (nI x), .int (nI y)] (tq_SC ++ rest) tq_RR I J (tq_ret (tq_SC ++ rest) tq_RR (some (.int (r_X11_staleAt I x y w h o c L))) (I_X11_staleAt I x y w h o c L) J) := by
  refine CT.ret kX11_staleAt (Nat.le_of_ble_eq_true rfl) (fun x0 C hR hZ => ?_)
  refine EV_en (lv' := [some (.ref 0), some (.int (nI x)), some (.int (nI y))]) 0 rfl ?_
  have hw10 := k.w10
  have hh10 := k.h10
  refine EV_blk (own := 11) C rfl [(.aload_n 0, 0, 0, 0, 0), (.getfield 33, 11, 3, 371, 0), (.aload_n 0, 0, 0, 0, 0), (.getfield 12, 11, 0, 368, 0), (.iload_n 1, 0, 0, 0, 0), (.iload_n 2, 0, 0, 0, 0)] (pc' := 10) (by decide +kernel) (lv' := [some (.ref 0), some (.int (nI x)), some (.int (nI y))]) (st' := [.int (nI y), .int (nI x), .ref 1, .ref 102]) (I' := I) (J' := J) rfl ?_
  refine EV_cV (own := 11) (idx := 212) (μ' := mX7_draw) (b := 102) (cb := 7) (av := [.ref 1, .int (nI x), .int (nI y)]) (rest := []) C hR rfl (Or.inl ⟨664, by decide⟩) kX7_draw sX7_draw (c_X7_draw g rest I J x y (by omega) (by omega) (k.hT (by omega) (by omega)) k.r7 k.wi k.hi k.bd) rfl rfl (by decide +kernel) rfl (by decide) (Nat.le_of_ble_eq_true rfl) rfl ⟨Nat.zero_le _, Nat.zero_le _⟩ ?_
  refine EV_blk (own := 11) C rfl [(.aload_n 0, 0, 0, 0, 0), (.getfield 12, 11, 0, 368, 0), (.getfield 234, 8, 2, 199, 0), (.iload_n 1, 0, 0, 0, 0), (.iload_n 2, 0, 0, 0, 0)] (pc' := 22) (by decide +kernel) (lv' := [some (.ref 0), some (.int (nI x)), some (.int (nI y))]) (st' := [.int (nI y), .int (nI x), .ref 12]) (I' := (I_X7_draw I x y)) (J' := J) rfl ?_
  refine EV_cS (own := 11) (idx := 243) (μ' := mX11_cellIndex) (av := [.int (nI x), .int (nI y)]) (rest := [.ref 12]) C hR rfl (Or.inl ⟨719, by decide⟩) kX11_cellIndex sX11_cellIndex (c_X11_cellIndex g rest (I_X7_draw I x y) J x y ) (by decide +kernel) rfl (by decide) (Nat.le_of_ble_eq_true rfl) rfl ⟨Nat.zero_le _, Nat.zero_le _⟩ ?_
  refine EV_blk (own := 11) C rfl [(.aload_n 0, 0, 0, 0, 0), (.getfield 33, 11, 3, 371, 0)] (pc' := 29) (by decide +kernel) (lv' := [some (.ref 0), some (.int (nI x)), some (.int (nI y))]) (st' := [.ref 102, .int (nI (y * 10 + x)), .ref 12]) (I' := (I_X7_draw I x y)) (J' := J) rfl ?_
  refine EV_cV (own := 11) (idx := 318) (μ' := mX1_shows) (b := 12) (cb := 1) (av := [.int (nI (y * 10 + x)), .ref 102]) (rest := []) C hR rfl (Or.inl ⟨728, by decide⟩) kX1_shows sX1_shows (c_X1_shows g rest (I_X7_draw I x y) J (y * 10 + x) (tq_N (I_X7_draw I x y 102 5)) (by omega) (tq_nIN (tq_draw_ok (x := x) (y := y) k.r7).1.1) (tq_N7 (tq_draw_ok (x := x) (y := y) k.r7).1)) rfl rfl (by decide +kernel) rfl (by decide) (Nat.le_of_ble_eq_true rfl) rfl ⟨Nat.zero_le _, Nat.zero_le _⟩ ?_
  refine EV_if_eq (off := 7) (tgt := 39) C (by decide +kernel) (by decide) (fun h1 => ?_) (fun h1 => ?_)
  · skip
    refine EV_blk (own := 11) C rfl [(.iconst 1, 0, 0, 0, (nI 1))] (pc' := 40) (by decide +kernel) (lv' := [some (.ref 0), some (.int (nI x)), some (.int (nI y))]) (st' := [.int (nI 1)]) (I' := (I_X7_draw I x y)) (J' := J) rfl ?_
    exact EV_iret C hZ rfl (by decide +kernel) (Nat.le_refl _) (Nat.le_refl _) ⟨tq_some (by simp only [r_X11_staleAt, if_pos h1]), rfl, rfl, by simp only [I_X11_staleAt, if_pos h1], rfl⟩
  · skip
    refine EV_blk (own := 11) C rfl [(.iconst 0, 0, 0, 0, (nI 0)), (.goto 4, 0, 0, 0, 0)] (pc' := 40) (by decide +kernel) (lv' := [some (.ref 0), some (.int (nI x)), some (.int (nI y))]) (st' := [.int (nI 0)]) (I' := (I_X7_draw I x y)) (J' := J) rfl ?_
    exact EV_iret C hZ rfl (by decide +kernel) (Nat.le_refl _) (Nat.le_refl _) ⟨tq_some (by simp only [r_X11_staleAt, if_neg h1]), rfl, rfl, by simp only [I_X11_staleAt, if_neg h1], rfl⟩
theorem fr_X11_staleAt (I : tq_I) (x y : Nat) (w h o c L : Nat) {cz : Nat} (hc : cz ≠ 102 ∧ cz ≠ 103 ∧ cz ≠ 104 ∧ cz ≠ 105 ∧ cz ≠ 106) (jz : Nat) : I_X11_staleAt I x y w h o c L cz jz = I cz jz := by
  obtain ⟨hc0, hc1, hc2, hc3, hc4⟩ := hc
  simp only [I_X11_staleAt]
  (repeat' split) <;> simp (disch := first | assumption | (simp only [ne_eq] at *; simp [*])) [tq_u, tq_cp, hc0, hc1, hc2, hc3, hc4, fr_tb1, fr_tb2, fr_X8_touchBlock, fr_X8_touchAll, fr_X8_changeCorner, fr_X8_changePath, fr_cb1, fr_cb2, fr_X8_changeBlock, fr_wipe1, fr_X1_wipe, fr_sm1, fr_sm2, fr_X8_startMap, fr_X6_place, fr_mt1, fr_mt2, fr_X6_moveTo, fr_ch2, fr_X10_choose, fr_X1_take, fr_fgt1, fr_X5_forget, fr_X5_meet, fr_gat1, fr_X5_gather, fr_dl1, fr_dl2, fr_X7_drawLayers, fr_dp1, fr_X7_drawPieces, fr_dr1, fr_X7_draw, fr_X9_add, fr_ac1, fr_X9_addCell, fr_tk0, fr_tk1, fr_tk2, fr_X9_take, fr_append111, fr_append113, fr_X4_acceptRowEnd, fr_X4_acceptNumber, fr_al1, fr_X4_acceptLetter, fr_X4_accept, fr_X11_touchAllIf]
theorem tq_ok.staleAt {I : tq_I} {w h o c L : Nat} (k : tq_ok I w h o c L) (x y : Nat) : tq_ok (I_X11_staleAt I x y w h o c L) w h o c L := k.cong (fun cz hz jz => by
  have : cz ≠ 102 ∧ cz ≠ 103 ∧ cz ≠ 104 ∧ cz ≠ 105 ∧ cz ≠ 106 := by
    simp only [List.mem_cons, List.not_mem_nil, or_false] at hz
    omega
  exact fr_X11_staleAt _ _ _ _ _ _ _ _ this jz)
def r_X11_isStale (I : tq_I) (x y : Int32) (w h o c L : Nat) : Int32 := (if (tq_b (tq_cell I x y)) = 0 then (-2) else (r_X11_staleAt I (tq_N x) (tq_N y) w h o c L))
def I_X11_isStale (I : tq_I) (x y : Int32) (w h o c L : Nat) : tq_I := (if (tq_b (tq_cell I x y)) = 0 then I else (I_X11_staleAt I (tq_N x) (tq_N y) w h o c L))
set_option maxRecDepth 20000 in
theorem c_X11_isStale (g : tq_G) (rest : List tq_S) (I : tq_I) (J : Int64) (x y : Int32) (w h o c L : Nat) (k : tq_ok I w h o c L)  : CT g mX11_isStale 7 0 0 [.ref 0, .int x, .int y] (tq_SC ++ rest) tq_RR I J (tq_ret (tq_SC ++ rest) tq_RR (some (.int (r_X11_isStale I x y w h o c L))) (I_X11_isStale I x y w h o c L) J) := by
  refine CT.ret kX11_isStale (Nat.le_of_ble_eq_true rfl) (fun x0 C hR hZ => ?_)
  refine EV_en (lv' := [some (.ref 0), some (.int x), some (.int y)]) 0 rfl ?_
  refine EV_blk (own := 11) C rfl [(.aload_n 0, 0, 0, 0, 0), (.getfield 12, 11, 0, 368, 0), (.getfield 77, 8, 0, 193, 0), (.iload_n 1, 0, 0, 0, 0), (.iload_n 2, 0, 0, 0, 0)] (pc' := 9) (by decide +kernel) (lv' := [some (.ref 0), some (.int x), some (.int y)]) (st' := [.int y, .int x, .ref 2]) (I' := I) (J' := J) rfl ?_
  refine EV_cV (own := 11) (idx := 153) (μ' := mX3_isCell) (b := 2) (cb := 3) (av := [.int x, .int y]) (rest := []) C hR rfl (Or.inl ⟨543, by decide⟩) kX3_isCell sX3_isCell (c_X3_isCell g rest I J x y ) rfl rfl (by decide +kernel) rfl (by decide) (Nat.le_of_ble_eq_true rfl) rfl ⟨Nat.zero_le _, Nat.zero_le _⟩ ?_
  refine EV_if_eq (off := 12) (tgt := 24) C (by decide +kernel) (by decide) (fun h1 => ?_) (fun h1 => ?_)
  · skip
    refine EV_blk (own := 11) C rfl [(.bipush (-2), 0, 0, 0, (-2))] (pc' := 26) (by decide +kernel) (lv' := [some (.ref 0), some (.int x), some (.int y)]) (st' := [.int (-2)]) (I' := I) (J' := J) rfl ?_
    exact EV_iret C hZ rfl (by decide +kernel) (Nat.le_refl _) (Nat.le_refl _) ⟨tq_some (by simp only [r_X11_isStale, if_pos h1]), rfl, rfl, by simp only [I_X11_isStale, if_pos h1], rfl⟩
  · skip
    have h0 := tq_b10 h1
    have hxy := k.cell h0
    refine EV_lve (lv' := [some (.ref 0), some (.int (nI (tq_N x))), some (.int (nI (tq_N y)))]) (by rw [← tq_nIN h0.1, ← tq_nIN h0.2.2.1]) ?_
    refine EV_blk (own := 11) C rfl [(.aload_n 0, 0, 0, 0, 0), (.iload_n 1, 0, 0, 0, 0), (.iload_n 2, 0, 0, 0, 0)] (pc' := 18) (by decide +kernel) (lv' := [some (.ref 0), some (.int (nI (tq_N x))), some (.int (nI (tq_N y)))]) (st' := [.int (nI (tq_N y)), .int (nI (tq_N x)), .ref 0]) (I' := I) (J' := J) rfl ?_
    refine EV_cV (own := 11) (idx := 246) (μ' := mX11_staleAt) (b := 0) (cb := 11) (av := [.int (nI (tq_N x)), .int (nI (tq_N y))]) (rest := []) C hR rfl (Or.inl ⟨724, by decide⟩) kX11_staleAt sX11_staleAt (c_X11_staleAt g rest I J (tq_N x) (tq_N y) w h o c L k (by omega) (by omega)) rfl rfl (by decide +kernel) rfl (by decide) (Nat.le_of_ble_eq_true rfl) rfl ⟨Nat.zero_le _, Nat.zero_le _⟩ ?_
    refine EV_blk (own := 11) C rfl [(.goto 5, 0, 0, 0, 0)] (pc' := 26) (by decide +kernel) (lv' := [some (.ref 0), some (.int (nI (tq_N x))), some (.int (nI (tq_N y)))]) (st' := [.int (r_X11_staleAt I (tq_N x) (tq_N y) w h o c L)]) (I' := (I_X11_staleAt I (tq_N x) (tq_N y) w h o c L)) (J' := J) rfl ?_
    exact EV_iret C hZ rfl (by decide +kernel) (Nat.le_refl _) (Nat.le_refl _) ⟨tq_some (by simp only [r_X11_isStale, if_neg h1]), rfl, rfl, by simp only [I_X11_isStale, if_neg h1], rfl⟩
def f_st1 (y : Nat) (w h o c L : Nat) (i : Nat) (a : Int32 × tq_I) : Int32 × tq_I := ((a.1 + (r_X11_staleAt a.2 i y w h o c L)), (I_X11_staleAt a.2 i y w h o c L))
set_option maxRecDepth 20000 in
theorem lp_st1 {g : tq_G} {rest : List tq_S} {x0 : tq_X} (C : tq_C g mX11_stale x0) (hR : tq_ht x0 7 0 0) (J : Int64) (y : Nat) (w h o c L : Nat) (hw10 : w ≤ 10) (hy : y < h) : ∀ (n i : Nat) (a : Int32 × tq_I), i + n = w → tq_ok a.2 w h o c L → EV g mX11_stale x0 0 0 49 [some (.ref 0), some (.int ((tq_it (f_st1 y w h o c L) n i a).1)), some (.int (nI y)), some (.int (nI (i + n)))] [] (tq_SC ++ rest) tq_RR ((tq_it (f_st1 y w h o c L) n i a).2) J → EV g mX11_stale x0 0 0 20 [some (.ref 0), some (.int a.1), some (.int (nI y)), some (.int (nI i))] [] (tq_SC ++ rest) tq_RR a.2 J := by
  intro n
  induction n with
  | zero =>
    intro i a hi hI kk
    rw [Nat.add_zero] at kk
    refine EV_blk (own := 11) C rfl [(.iload_n 3, 0, 0, 0, 0), (.aload_n 0, 0, 0, 0, 0), (.getfield 12, 11, 0, 368, 0), (.getfield 77, 8, 0, 193, 0), (.getfield 81, 3, 0, 98, 0)] (pc' := 31) (by decide +kernel) (lv' := [some (.ref 0), some (.int a.1), some (.int (nI y)), some (.int (nI i))]) (st' := [.int (a.2 2 0), .int (nI i)]) (I' := a.2) (J' := J) rfl ?_
    refine EV_icmp_ge (off := 18) (tgt := 49) C (by decide +kernel) (by decide) (fun h1 => ?_) (fun h1 => ?_)
    · skip
      exact kk
    · skip
      exact absurd h1 (by simp (disch := omega) only [Int32.lt_iff_toInt_lt, Int32.le_iff_toInt_le, Int32.toInt_zero, nI_toInt, tq_m1, hI.hw]; omega)
  | succ n ih =>
    intro i a hi hI kk
    rw [show i + (n + 1) = (i + 1) + n by omega] at kk
    refine EV_blk (own := 11) C rfl [(.iload_n 3, 0, 0, 0, 0), (.aload_n 0, 0, 0, 0, 0), (.getfield 12, 11, 0, 368, 0), (.getfield 77, 8, 0, 193, 0), (.getfield 81, 3, 0, 98, 0)] (pc' := 31) (by decide +kernel) (lv' := [some (.ref 0), some (.int a.1), some (.int (nI y)), some (.int (nI i))]) (st' := [.int (a.2 2 0), .int (nI i)]) (I' := a.2) (J' := J) rfl ?_
    refine EV_icmp_ge (off := 18) (tgt := 49) C (by decide +kernel) (by decide) (fun h1 => ?_) (fun h1 => ?_)
    · skip
      exact absurd h1 (by simp (disch := omega) only [Int32.lt_iff_toInt_lt, Int32.le_iff_toInt_le, Int32.toInt_zero, nI_toInt, tq_m1, hI.hw]; omega)
    · skip
      refine EV_blk (own := 11) C rfl [(.iload_n 1, 0, 0, 0, 0), (.aload_n 0, 0, 0, 0, 0), (.iload_n 3, 0, 0, 0, 0), (.iload_n 2, 0, 0, 0, 0)] (pc' := 38) (by decide +kernel) (lv' := [some (.ref 0), some (.int a.1), some (.int (nI y)), some (.int (nI i))]) (st' := [.int (nI y), .int (nI i), .ref 0, .int a.1]) (I' := a.2) (J' := J) rfl ?_
      refine EV_cV (own := 11) (idx := 246) (μ' := mX11_staleAt) (b := 0) (cb := 11) (av := [.int (nI i), .int (nI y)]) (rest := [.int a.1]) C hR rfl (Or.inl ⟨724, by decide⟩) kX11_staleAt sX11_staleAt (c_X11_staleAt g rest a.2 J i y w h o c L hI (by omega) (by omega)) rfl rfl (by decide +kernel) rfl (by decide) (Nat.le_of_ble_eq_true rfl) rfl ⟨Nat.zero_le _, Nat.zero_le _⟩ ?_
      refine EV_blk (own := 11) C rfl [(.iadd, 0, 0, 0, 0), (.istore_n 1, 0, 0, 0, 0), (.iinc 3 1, 0, 0, 0, (nI 1)), (.goto (-26), 0, 0, 0, 0)] (pc' := 20) (by decide +kernel) (lv' := [some (.ref 0), some (.int (a.1 + (r_X11_staleAt a.2 i y w h o c L))), some (.int (nI y)), some (.int ((nI i) + (nI 1)))]) (st' := []) (I' := (I_X11_staleAt a.2 i y w h o c L)) (J' := J) rfl ?_
      rw [show ((nI i) + (nI 1)) = (nI (i + 1)) from by simp (disch := omega) only [nI_add, tq_mul] <;> exact congrArg nI (by omega)]
      rw [tq_its, show (f_st1 y w h o c L) i a = ((a.1 + (r_X11_staleAt a.2 i y w h o c L)), (I_X11_staleAt a.2 i y w h o c L)) from by simp only [f_st1, if_neg h1]] at kk
      have ihx := ih (i + 1) ((a.1 + (r_X11_staleAt a.2 i y w h o c L)), (I_X11_staleAt a.2 i y w h o c L)) (by omega)
      dsimp only at ihx
      exact ihx (tq_ok.staleAt hI i y) kk
theorem fr_st1 (y : Nat) (w h o c L : Nat) {cz : Nat} (hc : cz ≠ 102 ∧ cz ≠ 103 ∧ cz ≠ 104 ∧ cz ≠ 105 ∧ cz ≠ 106) (n i : Nat) (a : Int32 × tq_I) (jz : Nat) : (tq_it (f_st1 y w h o c L) n i a).2 cz jz = a.2 cz jz := by
  obtain ⟨hc0, hc1, hc2, hc3, hc4⟩ := hc
  refine tq_itF2 (fun i a j => ?_) n i a jz
  simp only [f_st1]
  (repeat' split) <;> simp (disch := first | assumption | (simp only [ne_eq] at *; simp [*])) [tq_u, tq_cp, hc0, hc1, hc2, hc3, hc4, fr_tb1, fr_tb2, fr_X8_touchBlock, fr_X8_touchAll, fr_X8_changeCorner, fr_X8_changePath, fr_cb1, fr_cb2, fr_X8_changeBlock, fr_wipe1, fr_X1_wipe, fr_sm1, fr_sm2, fr_X8_startMap, fr_X6_place, fr_mt1, fr_mt2, fr_X6_moveTo, fr_ch2, fr_X10_choose, fr_X1_take, fr_fgt1, fr_X5_forget, fr_X5_meet, fr_gat1, fr_X5_gather, fr_dl1, fr_dl2, fr_X7_drawLayers, fr_dp1, fr_X7_drawPieces, fr_dr1, fr_X7_draw, fr_X9_add, fr_ac1, fr_X9_addCell, fr_tk0, fr_tk1, fr_tk2, fr_X9_take, fr_append111, fr_append113, fr_X4_acceptRowEnd, fr_X4_acceptNumber, fr_al1, fr_X4_acceptLetter, fr_X4_accept, fr_X11_touchAllIf, fr_X11_staleAt]
theorem tq_ok.st1 {a : Int32 × tq_I} {y w h o c L : Nat} (k : tq_ok a.2 w h o c L) (n i : Nat) : tq_ok (tq_it (f_st1 y w h o c L) n i a).2 w h o c L := tq_itP (fun b => tq_ok b.2 w h o c L) (fun i b hb => by simp only [f_st1]; exact tq_ok.staleAt hb i y) n i a k
def f_st2 (w h o c L : Nat) (i : Nat) (a : Int32 × tq_I) : Int32 × tq_I := ((tq_it (f_st1 i w h o c L) w 0 (a.1, a.2)).1, (tq_it (f_st1 i w h o c L) w 0 (a.1, a.2)).2)
set_option maxRecDepth 20000 in
theorem lp_st2 {g : tq_G} {rest : List tq_S} {x0 : tq_X} (C : tq_C g mX11_stale x0) (hR : tq_ht x0 7 0 0) (J : Int64) (w h o c L : Nat) (hw10 : w ≤ 10) (hh10 : h ≤ 10) : ∀ (n i : Nat) (a : Int32 × tq_I), i + n = h → tq_ok a.2 w h o c L → EV g mX11_stale x0 0 0 55 [some (.ref 0), some (.int ((tq_it (f_st2 w h o c L) n i a).1)), some (.int (nI (i + n))), none] [] (tq_SC ++ rest) tq_RR ((tq_it (f_st2 w h o c L) n i a).2) J → EV g mX11_stale x0 0 0 4 [some (.ref 0), some (.int a.1), some (.int (nI i)), none] [] (tq_SC ++ rest) tq_RR a.2 J := by
  intro n
  induction n with
  | zero =>
    intro i a hi hI kk
    rw [Nat.add_zero] at kk
    refine EV_blk (own := 11) C rfl [(.iload_n 2, 0, 0, 0, 0), (.aload_n 0, 0, 0, 0, 0), (.getfield 12, 11, 0, 368, 0), (.getfield 77, 8, 0, 193, 0), (.getfield 87, 3, 1, 102, 0)] (pc' := 15) (by decide +kernel) (lv' := [some (.ref 0), some (.int a.1), some (.int (nI i)), none]) (st' := [.int (a.2 2 1), .int (nI i)]) (I' := a.2) (J' := J) rfl ?_
    refine EV_icmp_ge (off := 40) (tgt := 55) C (by decide +kernel) (by decide) (fun h1 => ?_) (fun h1 => ?_)
    · skip
      exact kk
    · skip
      exact absurd h1 (by simp (disch := omega) only [Int32.lt_iff_toInt_lt, Int32.le_iff_toInt_le, Int32.toInt_zero, nI_toInt, tq_m1, hI.hh]; omega)
  | succ n ih =>
    intro i a hi hI kk
    rw [show i + (n + 1) = (i + 1) + n by omega] at kk
    refine EV_blk (own := 11) C rfl [(.iload_n 2, 0, 0, 0, 0), (.aload_n 0, 0, 0, 0, 0), (.getfield 12, 11, 0, 368, 0), (.getfield 77, 8, 0, 193, 0), (.getfield 87, 3, 1, 102, 0)] (pc' := 15) (by decide +kernel) (lv' := [some (.ref 0), some (.int a.1), some (.int (nI i)), none]) (st' := [.int (a.2 2 1), .int (nI i)]) (I' := a.2) (J' := J) rfl ?_
    refine EV_icmp_ge (off := 40) (tgt := 55) C (by decide +kernel) (by decide) (fun h1 => ?_) (fun h1 => ?_)
    · skip
      exact absurd h1 (by simp (disch := omega) only [Int32.lt_iff_toInt_lt, Int32.le_iff_toInt_le, Int32.toInt_zero, nI_toInt, tq_m1, hI.hh]; omega)
    · skip
      refine EV_blk (own := 11) C rfl [(.iconst 0, 0, 0, 0, (nI 0)), (.istore_n 3, 0, 0, 0, 0)] (pc' := 20) (by decide +kernel) (lv' := [some (.ref 0), some (.int a.1), some (.int (nI i)), some (.int (nI 0))]) (st' := []) (I' := a.2) (J' := J) rfl ?_
      refine lp_st1 C hR J i w h o c L hw10 (by omega) w 0 (a.1, a.2) (by omega) hI ?_
      refine EV_blk (own := 11) C rfl [(.iinc 2 1, 0, 0, 0, (nI 1)), (.goto (-48), 0, 0, 0, 0)] (pc' := 4) (by decide +kernel) (lv' := [some (.ref 0), some (.int ((tq_it (f_st1 i w h o c L) w 0 (a.1, a.2)).1)), some (.int ((nI i) + (nI 1))), some (.int (nI ((0 + w))))]) (st' := []) (I' := (tq_it (f_st1 i w h o c L) w 0 (a.1, a.2)).2) (J' := J) rfl ?_
      refine EV_fg (lv' := [some (.ref 0), some (.int ((tq_it (f_st1 i w h o c L) w 0 (a.1, a.2)).1)), some (.int ((nI i) + (nI 1))), none]) ⟨rfl, rfl, rfl, trivial⟩ ?_
      rw [show ((nI i) + (nI 1)) = (nI (i + 1)) from by simp (disch := omega) only [nI_add, tq_mul] <;> exact congrArg nI (by omega)]
      rw [tq_its, show (f_st2 w h o c L) i a = ((tq_it (f_st1 i w h o c L) w 0 (a.1, a.2)).1, (tq_it (f_st1 i w h o c L) w 0 (a.1, a.2)).2) from by simp only [f_st2, if_neg h1]] at kk
      exact ih (i + 1) ((tq_it (f_st1 i w h o c L) w 0 (a.1, a.2)).1, (tq_it (f_st1 i w h o c L) w 0 (a.1, a.2)).2) (by omega) (tq_ok.st1 (a := (a.1, a.2)) hI _ _) kk
theorem fr_st2 (w h o c L : Nat) {cz : Nat} (hc : cz ≠ 102 ∧ cz ≠ 103 ∧ cz ≠ 104 ∧ cz ≠ 105 ∧ cz ≠ 106) (n i : Nat) (a : Int32 × tq_I) (jz : Nat) : (tq_it (f_st2 w h o c L) n i a).2 cz jz = a.2 cz jz := by
  obtain ⟨hc0, hc1, hc2, hc3, hc4⟩ := hc
  refine tq_itF2 (fun i a j => ?_) n i a jz
  simp only [f_st2]
  (repeat' split) <;> simp (disch := first | assumption | (simp only [ne_eq] at *; simp [*])) [tq_u, tq_cp, hc0, hc1, hc2, hc3, hc4, fr_tb1, fr_tb2, fr_X8_touchBlock, fr_X8_touchAll, fr_X8_changeCorner, fr_X8_changePath, fr_cb1, fr_cb2, fr_X8_changeBlock, fr_wipe1, fr_X1_wipe, fr_sm1, fr_sm2, fr_X8_startMap, fr_X6_place, fr_mt1, fr_mt2, fr_X6_moveTo, fr_ch2, fr_X10_choose, fr_X1_take, fr_fgt1, fr_X5_forget, fr_X5_meet, fr_gat1, fr_X5_gather, fr_dl1, fr_dl2, fr_X7_drawLayers, fr_dp1, fr_X7_drawPieces, fr_dr1, fr_X7_draw, fr_X9_add, fr_ac1, fr_X9_addCell, fr_tk0, fr_tk1, fr_tk2, fr_X9_take, fr_append111, fr_append113, fr_X4_acceptRowEnd, fr_X4_acceptNumber, fr_al1, fr_X4_acceptLetter, fr_X4_accept, fr_X11_touchAllIf, fr_X11_staleAt, fr_st1]
def r_X11_stale (I : tq_I)  (w h o c L : Nat) : Int32 := (tq_it (f_st2 w h o c L) h 0 ((nI 0), I)).1
def I_X11_stale (I : tq_I)  (w h o c L : Nat) : tq_I := (tq_it (f_st2 w h o c L) h 0 ((nI 0), I)).2
set_option maxRecDepth 20000 in
theorem c_X11_stale (g : tq_G) (rest : List tq_S) (I : tq_I) (J : Int64)  (w h o c L : Nat) (k : tq_ok I w h o c L)  : CT g mX11_stale 7 0 0 [.ref 0] (tq_SC ++ rest) tq_RR I J (tq_ret (tq_SC ++ rest) tq_RR (some (.int (r_X11_stale I w h o c L))) (I_X11_stale I w h o c L) J) := by
  refine CT.ret kX11_stale (Nat.le_of_ble_eq_true rfl) (fun x0 C hR hZ => ?_)
  refine EV_en (lv' := [some (.ref 0), none, none, none]) 3 rfl ?_
  refine EV_blk (own := 11) C rfl [(.iconst 0, 0, 0, 0, (nI 0)), (.istore_n 1, 0, 0, 0, 0), (.iconst 0, 0, 0, 0, (nI 0)), (.istore_n 2, 0, 0, 0, 0)] (pc' := 4) (by decide +kernel) (lv' := [some (.ref 0), some (.int (nI 0)), some (.int (nI 0)), none]) (st' := []) (I' := I) (J' := J) rfl ?_
  refine lp_st2 C hR J w h o c L k.w10 k.h10 h 0 ((nI 0), I) (by omega) k ?_
  refine EV_blk (own := 11) C rfl [(.iload_n 1, 0, 0, 0, 0)] (pc' := 56) (by decide +kernel) (lv' := [some (.ref 0), some (.int ((tq_it (f_st2 w h o c L) h 0 ((nI 0), I)).1)), some (.int (nI ((0 + h)))), none]) (st' := [.int ((tq_it (f_st2 w h o c L) h 0 ((nI 0), I)).1)]) (I' := (tq_it (f_st2 w h o c L) h 0 ((nI 0), I)).2) (J' := J) rfl ?_
  exact EV_iret C hZ rfl (by decide +kernel) (Nat.le_refl _) (Nat.le_refl _) ⟨tq_some (by simp only [r_X11_stale]), rfl, rfl, by simp only [I_X11_stale], rfl⟩
def f_to1 (I : tq_I) (y : Nat) (w h : Nat) (i : Nat) (a : Int32) : Int32 := (a + (I 16 (y * 10 + i)))
set_option maxRecDepth 20000 in
theorem lp_to1 {g : tq_G} {rest : List tq_S} {x0 : tq_X} (C : tq_C g mX11_touched x0) (hR : tq_ht x0 1 0 0) (I : tq_I) (J : Int64) (y : Nat) (w h : Nat) (hw : I 2 0 = nI w) (hw10 : w ≤ 10) (hy : y ≤ 9) : ∀ (n i : Nat) (a : Int32), i + n = w → EV g mX11_touched x0 0 0 59 [some (.ref 0), some (.int (tq_it (f_to1 I y w h) n i a)), some (.int (nI y)), some (.int (nI (i + n)))] [] (tq_SC ++ rest) tq_RR I J → EV g mX11_touched x0 0 0 20 [some (.ref 0), some (.int a), some (.int (nI y)), some (.int (nI i))] [] (tq_SC ++ rest) tq_RR I J := by
  intro n
  induction n with
  | zero =>
    intro i a hi kk
    rw [Nat.add_zero] at kk
    refine EV_blk (own := 11) C rfl [(.iload_n 3, 0, 0, 0, 0), (.aload_n 0, 0, 0, 0, 0), (.getfield 12, 11, 0, 368, 0), (.getfield 77, 8, 0, 193, 0), (.getfield 81, 3, 0, 98, 0)] (pc' := 31) (by decide +kernel) (lv' := [some (.ref 0), some (.int a), some (.int (nI y)), some (.int (nI i))]) (st' := [.int (I 2 0), .int (nI i)]) (I' := I) (J' := J) rfl ?_
    refine EV_icmp_ge (off := 28) (tgt := 59) C (by decide +kernel) (by decide) (fun h1 => ?_) (fun h1 => ?_)
    · skip
      exact kk
    · skip
      exact absurd h1 (by simp (disch := omega) only [Int32.lt_iff_toInt_lt, Int32.le_iff_toInt_le, Int32.toInt_zero, nI_toInt, tq_m1, hw]; omega)
  | succ n ih =>
    intro i a hi kk
    rw [show i + (n + 1) = (i + 1) + n by omega] at kk
    refine EV_blk (own := 11) C rfl [(.iload_n 3, 0, 0, 0, 0), (.aload_n 0, 0, 0, 0, 0), (.getfield 12, 11, 0, 368, 0), (.getfield 77, 8, 0, 193, 0), (.getfield 81, 3, 0, 98, 0)] (pc' := 31) (by decide +kernel) (lv' := [some (.ref 0), some (.int a), some (.int (nI y)), some (.int (nI i))]) (st' := [.int (I 2 0), .int (nI i)]) (I' := I) (J' := J) rfl ?_
    refine EV_icmp_ge (off := 28) (tgt := 59) C (by decide +kernel) (by decide) (fun h1 => ?_) (fun h1 => ?_)
    · skip
      exact absurd h1 (by simp (disch := omega) only [Int32.lt_iff_toInt_lt, Int32.le_iff_toInt_le, Int32.toInt_zero, nI_toInt, tq_m1, hw]; omega)
    · skip
      refine EV_blk (own := 11) C rfl [(.iload_n 1, 0, 0, 0, 0), (.aload_n 0, 0, 0, 0, 0), (.getfield 12, 11, 0, 368, 0), (.getfield 234, 8, 2, 199, 0), (.getfield 249, 1, 3, 180, 0), (.iload_n 3, 0, 0, 0, 0), (.iload_n 2, 0, 0, 0, 0)] (pc' := 47) (by decide +kernel) (lv' := [some (.ref 0), some (.int a), some (.int (nI y)), some (.int (nI i))]) (st' := [.int (nI y), .int (nI i), .ref 16, .int a]) (I' := I) (J' := J) rfl ?_
      refine EV_cS (own := 11) (idx := 243) (μ' := mX11_cellIndex) (av := [.int (nI i), .int (nI y)]) (rest := [.ref 16, .int a]) C hR rfl (Or.inl ⟨719, by decide⟩) kX11_cellIndex sX11_cellIndex (c_X11_cellIndex g rest I J i y ) (by decide +kernel) rfl (by decide) (Nat.le_of_ble_eq_true rfl) rfl ⟨Nat.zero_le _, Nat.zero_le _⟩ ?_
      refine EV_iald (j := (y * 10 + i)) C (by decide +kernel) rfl (nI_toInt (by omega)) (by omega) ?_
      refine EV_blk (own := 11) C rfl [(.iadd, 0, 0, 0, 0), (.istore_n 1, 0, 0, 0, 0), (.iinc 3 1, 0, 0, 0, (nI 1)), (.goto (-36), 0, 0, 0, 0)] (pc' := 20) (by decide +kernel) (lv' := [some (.ref 0), some (.int (a + (I 16 (y * 10 + i)))), some (.int (nI y)), some (.int ((nI i) + (nI 1)))]) (st' := []) (I' := I) (J' := J) rfl ?_
      rw [show ((nI i) + (nI 1)) = (nI (i + 1)) from by simp (disch := omega) only [nI_add, tq_mul] <;> exact congrArg nI (by omega)]
      rw [tq_its, show (f_to1 I y w h) i a = (a + (I 16 (y * 10 + i))) from by simp only [f_to1, if_neg h1]] at kk
      exact ih (i + 1) (a + (I 16 (y * 10 + i))) (by omega) kk
def f_to2 (I : tq_I) (w h : Nat) (i : Nat) (a : Int32) : Int32 := (tq_it (f_to1 I i w h) w 0 a)
set_option maxRecDepth 20000 in
theorem lp_to2 {g : tq_G} {rest : List tq_S} {x0 : tq_X} (C : tq_C g mX11_touched x0) (hR : tq_ht x0 1 0 0) (I : tq_I) (J : Int64) (w h : Nat) (hw : I 2 0 = nI w) (hh : I 2 1 = nI h) (hw10 : w ≤ 10) (hh10 : h ≤ 10) : ∀ (n i : Nat) (a : Int32), i + n = h → EV g mX11_touched x0 0 0 65 [some (.ref 0), some (.int (tq_it (f_to2 I w h) n i a)), some (.int (nI (i + n))), none] [] (tq_SC ++ rest) tq_RR I J → EV g mX11_touched x0 0 0 4 [some (.ref 0), some (.int a), some (.int (nI i)), none] [] (tq_SC ++ rest) tq_RR I J := by
  intro n
  induction n with
  | zero =>
    intro i a hi kk
    rw [Nat.add_zero] at kk
    refine EV_blk (own := 11) C rfl [(.iload_n 2, 0, 0, 0, 0), (.aload_n 0, 0, 0, 0, 0), (.getfield 12, 11, 0, 368, 0), (.getfield 77, 8, 0, 193, 0), (.getfield 87, 3, 1, 102, 0)] (pc' := 15) (by decide +kernel) (lv' := [some (.ref 0), some (.int a), some (.int (nI i)), none]) (st' := [.int (I 2 1), .int (nI i)]) (I' := I) (J' := J) rfl ?_
    refine EV_icmp_ge (off := 50) (tgt := 65) C (by decide +kernel) (by decide) (fun h1 => ?_) (fun h1 => ?_)
    · skip
      exact kk
    · skip
      exact absurd h1 (by simp (disch := omega) only [Int32.lt_iff_toInt_lt, Int32.le_iff_toInt_le, Int32.toInt_zero, nI_toInt, tq_m1, hh]; omega)
  | succ n ih =>
    intro i a hi kk
    rw [show i + (n + 1) = (i + 1) + n by omega] at kk
    refine EV_blk (own := 11) C rfl [(.iload_n 2, 0, 0, 0, 0), (.aload_n 0, 0, 0, 0, 0), (.getfield 12, 11, 0, 368, 0), (.getfield 77, 8, 0, 193, 0), (.getfield 87, 3, 1, 102, 0)] (pc' := 15) (by decide +kernel) (lv' := [some (.ref 0), some (.int a), some (.int (nI i)), none]) (st' := [.int (I 2 1), .int (nI i)]) (I' := I) (J' := J) rfl ?_
    refine EV_icmp_ge (off := 50) (tgt := 65) C (by decide +kernel) (by decide) (fun h1 => ?_) (fun h1 => ?_)
    · skip
      exact absurd h1 (by simp (disch := omega) only [Int32.lt_iff_toInt_lt, Int32.le_iff_toInt_le, Int32.toInt_zero, nI_toInt, tq_m1, hh]; omega)
    · skip
      refine EV_blk (own := 11) C rfl [(.iconst 0, 0, 0, 0, (nI 0)), (.istore_n 3, 0, 0, 0, 0)] (pc' := 20) (by decide +kernel) (lv' := [some (.ref 0), some (.int a), some (.int (nI i)), some (.int (nI 0))]) (st' := []) (I' := I) (J' := J) rfl ?_
      refine lp_to1 C hR I J i w h hw hw10 (by omega) w 0 a (by omega) ?_
      refine EV_blk (own := 11) C rfl [(.iinc 2 1, 0, 0, 0, (nI 1)), (.goto (-58), 0, 0, 0, 0)] (pc' := 4) (by decide +kernel) (lv' := [some (.ref 0), some (.int (tq_it (f_to1 I i w h) w 0 a)), some (.int ((nI i) + (nI 1))), some (.int (nI ((0 + w))))]) (st' := []) (I' := I) (J' := J) rfl ?_
      refine EV_fg (lv' := [some (.ref 0), some (.int (tq_it (f_to1 I i w h) w 0 a)), some (.int ((nI i) + (nI 1))), none]) ⟨rfl, rfl, rfl, trivial⟩ ?_
      rw [show ((nI i) + (nI 1)) = (nI (i + 1)) from by simp (disch := omega) only [nI_add, tq_mul] <;> exact congrArg nI (by omega)]
      rw [tq_its, show (f_to2 I w h) i a = (tq_it (f_to1 I i w h) w 0 a) from by simp only [f_to2, if_neg h1]] at kk
      exact ih (i + 1) (tq_it (f_to1 I i w h) w 0 a) (by omega) kk
def r_X11_touched (I : tq_I) (w h : Nat) : Int32 := (tq_it (f_to2 I w h) h 0 (nI 0))
set_option maxRecDepth 20000 in
theorem c_X11_touched (g : tq_G) (rest : List tq_S) (I : tq_I) (J : Int64) (w h : Nat) (hw : I 2 0 = nI w) (hh : I 2 1 = nI h) (hw10 : w ≤ 10) (hh10 : h ≤ 10) : CT g mX11_touched 1 0 0 [.ref 0] (tq_SC ++ rest) tq_RR I J (tq_ret (tq_SC ++ rest) tq_RR (some (.int (r_X11_touched I w h))) I J) := by
  refine CT.ret kX11_touched (Nat.le_of_ble_eq_true rfl) (fun x0 C hR hZ => ?_)
  refine EV_en (lv' := [some (.ref 0), none, none, none]) 3 rfl ?_
  refine EV_blk (own := 11) C rfl [(.iconst 0, 0, 0, 0, (nI 0)), (.istore_n 1, 0, 0, 0, 0), (.iconst 0, 0, 0, 0, (nI 0)), (.istore_n 2, 0, 0, 0, 0)] (pc' := 4) (by decide +kernel) (lv' := [some (.ref 0), some (.int (nI 0)), some (.int (nI 0)), none]) (st' := []) (I' := I) (J' := J) rfl ?_
  refine lp_to2 C hR I J w h hw hh hw10 hh10 h 0 (nI 0) (by omega) ?_
  refine EV_blk (own := 11) C rfl [(.iload_n 1, 0, 0, 0, 0)] (pc' := 66) (by decide +kernel) (lv' := [some (.ref 0), some (.int (tq_it (f_to2 I w h) h 0 (nI 0))), some (.int (nI ((0 + h)))), none]) (st' := [.int (tq_it (f_to2 I w h) h 0 (nI 0))]) (I' := I) (J' := J) rfl ?_
  exact EV_iret C hZ rfl (by decide +kernel) (Nat.le_refl _) (Nat.le_refl _) ⟨tq_some (by simp only [r_X11_touched]), rfl, rfl, rfl, rfl⟩
def r_X11_kinds (I : tq_I)  (w h o c L : Nat) : Int32 := ((I_X9_take I w h) 107 3)
def I_X11_kinds (I : tq_I)  (w h o c L : Nat) : tq_I := (I_X9_take I w h)
set_option maxRecDepth 20000 in
theorem c_X11_kinds (g : tq_G) (rest : List tq_S) (I : tq_I) (J : Int64)  (w h o c L : Nat) (k : tq_ok I w h o c L)  : CT g mX11_kinds 3 0 0 [.ref 0] (tq_SC ++ rest) tq_RR I J (tq_ret (tq_SC ++ rest) tq_RR (some (.int (r_X11_kinds I w h o c L))) (I_X11_kinds I w h o c L) J) := by
  refine CT.ret kX11_kinds (Nat.le_of_ble_eq_true rfl) (fun x0 C hR hZ => ?_)
  refine EV_en (lv' := [some (.ref 0)]) 0 rfl ?_
  refine EV_blk (own := 11) C rfl [(.aload_n 0, 0, 0, 0, 0), (.getfield 40, 11, 4, 372, 0), (.aload_n 0, 0, 0, 0, 0), (.getfield 12, 11, 0, 368, 0)] (pc' := 8) (by decide +kernel) (lv' := [some (.ref 0)]) (st' := [.ref 1, .ref 107]) (I' := I) (J' := J) rfl ?_
  refine EV_cV (own := 11) (idx := 255) (μ' := mX9_take) (b := 107) (cb := 9) (av := [.ref 1]) (rest := []) C hR rfl (Or.inl ⟨764, by decide⟩) kX9_take sX9_take (c_X9_take g rest I J w h k.hw k.hh k.w10 k.h10 k.cv) rfl rfl (by decide +kernel) rfl (by decide) (Nat.le_of_ble_eq_true rfl) rfl ⟨Nat.zero_le _, Nat.zero_le _⟩ ?_
  refine EV_blk (own := 11) C rfl [(.aload_n 0, 0, 0, 0, 0), (.getfield 40, 11, 4, 372, 0), (.getfield 258, 9, 3, 293, 0)] (pc' := 18) (by decide +kernel) (lv' := [some (.ref 0)]) (st' := [.int ((I_X9_take I w h) 107 3)]) (I' := (I_X9_take I w h)) (J' := J) rfl ?_
  exact EV_iret C hZ rfl (by decide +kernel) (Nat.le_refl _) (Nat.le_refl _) ⟨tq_some (by simp only [r_X11_kinds]), rfl, rfl, by simp only [I_X11_kinds], rfl⟩
def r_X11_kind (I : tq_I) (ly q : Int32) (w h o c L : Nat) : Int32 := (if ly < 0 then (-2) else (if ly < ((I_X9_take I w h) 107 3) then (if q = (nI 4) then ((I_X9_take I w h) 109 (tq_N ly)) else (r_X11_propertyOfPiece ((I_X9_take I w h) 108 (tq_N ly)) q)) else (-2)))
def I_X11_kind (I : tq_I) (ly q : Int32) (w h o c L : Nat) : tq_I := (if ly < 0 then (I_X9_take I w h) else (if ly < ((I_X9_take I w h) 107 3) then (if q = (nI 4) then (I_X9_take I w h) else (I_X9_take I w h)) else (I_X9_take I w h)))
set_option maxRecDepth 20000 in
theorem c_X11_kind (g : tq_G) (rest : List tq_S) (I : tq_I) (J : Int64) (ly q : Int32) (w h o c L : Nat) (k : tq_ok I w h o c L)  : CT g mX11_kind 3 0 0 [.ref 0, .int ly, .int q] (tq_SC ++ rest) tq_RR I J (tq_ret (tq_SC ++ rest) tq_RR (some (.int (r_X11_kind I ly q w h o c L))) (I_X11_kind I ly q w h o c L) J) := by
  refine CT.ret kX11_kind (Nat.le_of_ble_eq_true rfl) (fun x0 C hR hZ => ?_)
  refine EV_en (lv' := [some (.ref 0), some (.int ly), some (.int q)]) 0 rfl ?_
  refine EV_blk (own := 11) C rfl [(.aload_n 0, 0, 0, 0, 0), (.getfield 40, 11, 4, 372, 0), (.aload_n 0, 0, 0, 0, 0), (.getfield 12, 11, 0, 368, 0)] (pc' := 8) (by decide +kernel) (lv' := [some (.ref 0), some (.int ly), some (.int q)]) (st' := [.ref 1, .ref 107]) (I' := I) (J' := J) rfl ?_
  refine EV_cV (own := 11) (idx := 255) (μ' := mX9_take) (b := 107) (cb := 9) (av := [.ref 1]) (rest := []) C hR rfl (Or.inl ⟨764, by decide⟩) kX9_take sX9_take (c_X9_take g rest I J w h k.hw k.hh k.w10 k.h10 k.cv) rfl rfl (by decide +kernel) rfl (by decide) (Nat.le_of_ble_eq_true rfl) rfl ⟨Nat.zero_le _, Nat.zero_le _⟩ ?_
  refine EV_blk (own := 11) C rfl [(.iload_n 1, 0, 0, 0, 0)] (pc' := 12) (by decide +kernel) (lv' := [some (.ref 0), some (.int ly), some (.int q)]) (st' := [.int ly]) (I' := (I_X9_take I w h)) (J' := J) rfl ?_
  refine EV_if_lt (off := 14) (tgt := 26) C (by decide +kernel) (by decide) (fun hlt0 => ?_) (fun hlt0 => ?_)
  · skip
    refine EV_blk (own := 11) C rfl [(.bipush (-2), 0, 0, 0, (-2))] (pc' := 28) (by decide +kernel) (lv' := [some (.ref 0), some (.int ly), some (.int q)]) (st' := [.int (-2)]) (I' := (I_X9_take I w h)) (J' := J) rfl ?_
    exact EV_iret C hZ rfl (by decide +kernel) (Nat.le_refl _) (Nat.le_refl _) ⟨tq_some (by simp only [r_X11_kind, if_pos hlt0]), rfl, rfl, by simp only [I_X11_kind, if_pos hlt0], rfl⟩
  · skip
    refine EV_blk (own := 11) C rfl [(.iload_n 1, 0, 0, 0, 0), (.aload_n 0, 0, 0, 0, 0), (.getfield 40, 11, 4, 372, 0), (.getfield 258, 9, 3, 293, 0)] (pc' := 23) (by decide +kernel) (lv' := [some (.ref 0), some (.int ly), some (.int q)]) (st' := [.int ((I_X9_take I w h) 107 3), .int ly]) (I' := (I_X9_take I w h)) (J' := J) rfl ?_
    refine EV_icmp_lt (off := 6) (tgt := 29) C (by decide +kernel) (by decide) (fun h1 => ?_) (fun h1 => ?_)
    · skip
      have htl := tq_take_ok k.hw k.hh k.w10 k.h10 k.cv
      have hly0 : 0 ≤ ly.toInt := by simp (disch := omega) only [Int32.lt_iff_toInt_lt, Int32.toInt_zero] at hlt0; omega
      have hly1 := Int32.lt_iff_toInt_lt.mp h1
      have hly2 := htl.2.1
      refine EV_blk (own := 11) C rfl [(.iload_n 2, 0, 0, 0, 0), (.iconst 4, 0, 0, 0, (nI 4))] (pc' := 31) (by decide +kernel) (lv' := [some (.ref 0), some (.int ly), some (.int q)]) (st' := [.int (nI 4), .int q]) (I' := (I_X9_take I w h)) (J' := J) rfl ?_
      refine EV_icmp_ne (off := 15) (tgt := 46) C (by decide +kernel) (by decide) (fun h2 => ?_) (fun h2 => ?_)
      · skip
        refine EV_blk (own := 11) C rfl [(.aload_n 0, 0, 0, 0, 0), (.getfield 40, 11, 4, 372, 0), (.getfield 262, 9, 0, 288, 0), (.iload_n 1, 0, 0, 0, 0)] (pc' := 54) (by decide +kernel) (lv' := [some (.ref 0), some (.int ly), some (.int q)]) (st' := [.int ly, .ref 108]) (I' := (I_X9_take I w h)) (J' := J) rfl ?_
        refine EV_iald (j := (tq_N ly)) C (by decide +kernel) rfl (tq_NI hly0) (tq_Nlt hly0 (by omega)) ?_
        refine EV_blk (own := 11) C rfl [(.iload_n 2, 0, 0, 0, 0)] (pc' := 56) (by decide +kernel) (lv' := [some (.ref 0), some (.int ly), some (.int q)]) (st' := [.int q, .int ((I_X9_take I w h) 108 (tq_N ly))]) (I' := (I_X9_take I w h)) (J' := J) rfl ?_
        refine EV_cS (own := 11) (idx := 231) (μ' := mX11_propertyOfPiece) (av := [.int ((I_X9_take I w h) 108 (tq_N ly)), .int q]) (rest := []) C hR rfl (Or.inl ⟨712, by decide⟩) kX11_propertyOfPiece sX11_propertyOfPiece (c_X11_propertyOfPiece g rest (I_X9_take I w h) J ((I_X9_take I w h) 108 (tq_N ly)) q ) (by decide +kernel) rfl (by decide) (Nat.le_of_ble_eq_true rfl) rfl ⟨Nat.zero_le _, Nat.zero_le _⟩ ?_
        exact EV_iret C hZ rfl (by decide +kernel) (Nat.le_refl _) (Nat.le_refl _) ⟨tq_some (by simp only [r_X11_kind, if_neg hlt0, if_pos h1, if_neg h2]), rfl, rfl, by simp only [I_X11_kind, if_neg hlt0, if_pos h1, if_neg h2], rfl⟩
      · skip
        refine EV_blk (own := 11) C rfl [(.aload_n 0, 0, 0, 0, 0), (.getfield 40, 11, 4, 372, 0), (.getfield 259, 9, 1, 290, 0), (.iload_n 1, 0, 0, 0, 0)] (pc' := 42) (by decide +kernel) (lv' := [some (.ref 0), some (.int ly), some (.int q)]) (st' := [.int ly, .ref 109]) (I' := (I_X9_take I w h)) (J' := J) rfl ?_
        refine EV_iald (j := (tq_N ly)) C (by decide +kernel) rfl (tq_NI hly0) (tq_Nlt hly0 (by omega)) ?_
        refine EV_blk (own := 11) C rfl [(.goto 16, 0, 0, 0, 0)] (pc' := 59) (by decide +kernel) (lv' := [some (.ref 0), some (.int ly), some (.int q)]) (st' := [.int ((I_X9_take I w h) 109 (tq_N ly))]) (I' := (I_X9_take I w h)) (J' := J) rfl ?_
        exact EV_iret C hZ rfl (by decide +kernel) (Nat.le_refl _) (Nat.le_refl _) ⟨tq_some (by simp only [r_X11_kind, if_neg hlt0, if_pos h1, if_pos h2]), rfl, rfl, by simp only [I_X11_kind, if_neg hlt0, if_pos h1, if_pos h2], rfl⟩
    · skip
      refine EV_blk (own := 11) C rfl [(.bipush (-2), 0, 0, 0, (-2))] (pc' := 28) (by decide +kernel) (lv' := [some (.ref 0), some (.int ly), some (.int q)]) (st' := [.int (-2)]) (I' := (I_X9_take I w h)) (J' := J) rfl ?_
      exact EV_iret C hZ rfl (by decide +kernel) (Nat.le_refl _) (Nat.le_refl _) ⟨tq_some (by simp only [r_X11_kind, if_neg hlt0, if_neg h1]), rfl, rfl, by simp only [I_X11_kind, if_neg hlt0, if_neg h1], rfl⟩
def r_X11_undo (I : tq_I)  (w h o c L : Nat) : Int32 := (if (I 17 2) = 0 then (-4) else ((tq_res I o c) 17 2))
def I_X11_undo (I : tq_I)  (w h o c L : Nat) : tq_I := (if (I 17 2) = 0 then I else (tq_res I o c))
set_option maxRecDepth 20000 in
theorem c_X11_undo (g : tq_G) (rest : List tq_S) (I : tq_I) (J : Int64)  (w h o c L : Nat) (k : tq_ok I w h o c L)  : CT g mX11_undo 6 0 0 [.ref 0] (tq_SC ++ rest) tq_RR I J (tq_ret (tq_SC ++ rest) tq_RR (some (.int (r_X11_undo I w h o c L))) (I_X11_undo I w h o c L) J) := by
  refine CT.ret kX11_undo (Nat.le_of_ble_eq_true rfl) (fun x0 C hR hZ => ?_)
  refine EV_en (lv' := [some (.ref 0)]) 0 rfl ?_
  refine EV_blk (own := 11) C rfl [(.aload_n 0, 0, 0, 0, 0), (.getfield 19, 11, 1, 369, 0), (.getfield 265, 2, 2, 219, 0)] (pc' := 7) (by decide +kernel) (lv' := [some (.ref 0)]) (st' := [.int (I 17 2)]) (I' := I) (J' := J) rfl ?_
  refine EV_if_ne (off := 6) (tgt := 13) C (by decide +kernel) (by decide) (fun hu => ?_) (fun hu => ?_)
  · skip
    refine EV_blk (own := 11) C rfl [(.aload_n 0, 0, 0, 0, 0), (.getfield 19, 11, 1, 369, 0), (.aload_n 0, 0, 0, 0, 0), (.getfield 12, 11, 0, 368, 0)] (pc' := 21) (by decide +kernel) (lv' := [some (.ref 0)]) (st' := [.ref 1, .ref 17]) (I' := I) (J' := J) rfl ?_
    refine EV_cV (own := 11) (idx := 266) (μ' := mX2_restore) (b := 17) (cb := 2) (av := [.ref 1]) (rest := []) C hR rfl (Or.inl ⟨786, by decide⟩) kX2_restore sX2_restore (c_X2_restore g rest I J o c k.ho k.hc k.o5 (Nat.pos_of_ne_zero (fun e => hu (by rw [k.hc, e]; rfl))) k.c5 k.hbd) rfl rfl (by decide +kernel) rfl (by decide) (Nat.le_of_ble_eq_true rfl) rfl ⟨Nat.zero_le _, Nat.zero_le _⟩ ?_
    refine EV_blk (own := 11) C rfl [(.aload_n 0, 0, 0, 0, 0), (.getfield 19, 11, 1, 369, 0), (.getfield 265, 2, 2, 219, 0)] (pc' := 31) (by decide +kernel) (lv' := [some (.ref 0)]) (st' := [.int ((tq_res I o c) 17 2)]) (I' := (tq_res I o c)) (J' := J) rfl ?_
    exact EV_iret C hZ rfl (by decide +kernel) (Nat.le_refl _) (Nat.le_refl _) ⟨tq_some (by simp only [r_X11_undo, if_neg hu]), rfl, rfl, by simp only [I_X11_undo, if_neg hu], rfl⟩
  · skip
    refine EV_blk (own := 11) C rfl [(.bipush (-4), 0, 0, 0, (-4))] (pc' := 12) (by decide +kernel) (lv' := [some (.ref 0)]) (st' := [.int (-4)]) (I' := I) (J' := J) rfl ?_
    exact EV_iret C hZ rfl (by decide +kernel) (Nat.le_refl _) (Nat.le_refl _) ⟨tq_some (by simp only [r_X11_undo, if_pos hu]), rfl, rfl, by simp only [I_X11_undo, if_pos hu], rfl⟩
def r_X11_type (I : tq_I) (v : Int32) (w h o c L : Nat) : Int32 := (if (tq_b ((nI 0).toInt ≤ v.toInt ∧ v.toInt ≤ (nI 255).toInt)) = 0 then (-3) else (if (I 111 1) < (nI 150) then ((I_append111 I v) 111 1) else (-5)))
def I_X11_type (I : tq_I) (v : Int32) (w h o c L : Nat) : tq_I := (if (tq_b ((nI 0).toInt ≤ v.toInt ∧ v.toInt ≤ (nI 255).toInt)) = 0 then I else (if (I 111 1) < (nI 150) then (I_append111 I v) else I))
set_option maxRecDepth 20000 in
theorem c_X11_type (g : tq_G) (rest : List tq_S) (I : tq_I) (J : Int64) (v : Int32) (w h o c L : Nat) (k : tq_ok I w h o c L)  : CT g mX11_type 1 0 0 [.ref 0, .int v] (tq_SC ++ rest) tq_RR I J (tq_ret (tq_SC ++ rest) tq_RR (some (.int (r_X11_type I v w h o c L))) (I_X11_type I v w h o c L) J) := by
  refine CT.ret kX11_type (Nat.le_of_ble_eq_true rfl) (fun x0 C hR hZ => ?_)
  refine EV_en (lv' := [some (.ref 0), some (.int v)]) 0 rfl ?_
  refine EV_blk (own := 11) C rfl [(.iload_n 1, 0, 0, 0, 0), (.iconst 0, 0, 0, 0, (nI 0)), (.sipush 255, 0, 0, 0, (nI 255))] (pc' := 5) (by decide +kernel) (lv' := [some (.ref 0), some (.int v)]) (st' := [.int (nI 255), .int (nI 0), .int v]) (I' := I) (J' := J) rfl ?_
  refine EV_cS (own := 11) (idx := 69) (μ' := mX11_isWithin) (av := [.int v, .int (nI 0), .int (nI 255)]) (rest := []) C hR rfl (Or.inl ⟨400, by decide⟩) kX11_isWithin sX11_isWithin (c_X11_isWithin g rest I J v (nI 0) (nI 255) ) (by decide +kernel) rfl (by decide) (Nat.le_of_ble_eq_true rfl) rfl ⟨Nat.zero_le _, Nat.zero_le _⟩ ?_
  refine EV_if_ne (off := 6) (tgt := 14) C (by decide +kernel) (by decide) (fun h1 => ?_) (fun h1 => ?_)
  · skip
    refine EV_blk (own := 11) C rfl [(.aload_n 0, 0, 0, 0, 0), (.getfield 47, 11, 5, 373, 0), (.getfield 269, 0, 1, 314, 0), (.sipush 150, 0, 0, 0, (nI 150))] (pc' := 24) (by decide +kernel) (lv' := [some (.ref 0), some (.int v)]) (st' := [.int (nI 150), .int (I 111 1)]) (I' := I) (J' := J) rfl ?_
    refine EV_icmp_lt (off := 6) (tgt := 30) C (by decide +kernel) (by decide) (fun h2 => ?_) (fun h2 => ?_)
    · skip
      refine EV_blk (own := 11) C rfl [(.aload_n 0, 0, 0, 0, 0), (.getfield 47, 11, 5, 373, 0), (.iload_n 1, 0, 0, 0, 0)] (pc' := 35) (by decide +kernel) (lv' := [some (.ref 0), some (.int v)]) (st' := [.int v, .ref 111]) (I' := I) (J' := J) rfl ?_
      refine EV_cV (own := 11) (idx := 272) (μ' := mX0_append) (b := 111) (cb := 0) (av := [.int v]) (rest := []) C hR rfl (Or.inl ⟨794, by decide⟩) kX0_append sX0_append (c_append111 g rest I J v (by rw [k.hL, nI_toInt (by have := k.L150; omega)]; omega)) rfl rfl (by decide +kernel) rfl (by decide) (Nat.le_of_ble_eq_true rfl) rfl ⟨Nat.zero_le _, Nat.zero_le _⟩ ?_
      refine EV_blk (own := 11) C rfl [(.aload_n 0, 0, 0, 0, 0), (.getfield 47, 11, 5, 373, 0), (.getfield 269, 0, 1, 314, 0)] (pc' := 45) (by decide +kernel) (lv' := [some (.ref 0), some (.int v)]) (st' := [.int ((I_append111 I v) 111 1)]) (I' := (I_append111 I v)) (J' := J) rfl ?_
      exact EV_iret C hZ rfl (by decide +kernel) (Nat.le_refl _) (Nat.le_refl _) ⟨tq_some (by simp only [r_X11_type, if_neg h1, if_pos h2]), rfl, rfl, by simp only [I_X11_type, if_neg h1, if_pos h2], rfl⟩
    · skip
      refine EV_blk (own := 11) C rfl [(.bipush (-5), 0, 0, 0, (-5))] (pc' := 29) (by decide +kernel) (lv' := [some (.ref 0), some (.int v)]) (st' := [.int (-5)]) (I' := I) (J' := J) rfl ?_
      exact EV_iret C hZ rfl (by decide +kernel) (Nat.le_refl _) (Nat.le_refl _) ⟨tq_some (by simp only [r_X11_type, if_neg h1, if_neg h2]), rfl, rfl, by simp only [I_X11_type, if_neg h1, if_neg h2], rfl⟩
  · skip
    refine EV_blk (own := 11) C rfl [(.bipush (-3), 0, 0, 0, (-3))] (pc' := 13) (by decide +kernel) (lv' := [some (.ref 0), some (.int v)]) (st' := [.int (-3)]) (I' := I) (J' := J) rfl ?_
    exact EV_iret C hZ rfl (by decide +kernel) (Nat.le_refl _) (Nat.le_refl _) ⟨tq_some (by simp only [r_X11_type, if_pos h1]), rfl, rfl, by simp only [I_X11_type, if_pos h1], rfl⟩
def r_X11_clearText (I : tq_I)  (w h o c L : Nat) : Int32 := (I 111 1)
def I_X11_clearText (I : tq_I)  (w h o c L : Nat) : tq_I := (tq_u I 111 1 (nI 0))
set_option maxRecDepth 20000 in
theorem c_X11_clearText (g : tq_G) (rest : List tq_S) (I : tq_I) (J : Int64)  (w h o c L : Nat) (k : tq_ok I w h o c L)  : CT g mX11_clearText 0 0 0 [.ref 0] (tq_SC ++ rest) tq_RR I J (tq_ret (tq_SC ++ rest) tq_RR (some (.int (r_X11_clearText I w h o c L))) (I_X11_clearText I w h o c L) J) := by
  refine CT.ret kX11_clearText (Nat.le_of_ble_eq_true rfl) (fun x0 C hR hZ => ?_)
  refine EV_en (lv' := [some (.ref 0), none]) 1 rfl ?_
  refine EV_blk (own := 11) C rfl [(.aload_n 0, 0, 0, 0, 0), (.getfield 47, 11, 5, 373, 0), (.getfield 269, 0, 1, 314, 0), (.istore_n 1, 0, 0, 0, 0), (.aload_n 0, 0, 0, 0, 0), (.getfield 47, 11, 5, 373, 0), (.iconst 0, 0, 0, 0, (nI 0)), (.putfield 269, 0, 1, 314, 0), (.iload_n 1, 0, 0, 0, 0)] (pc' := 17) (by decide +kernel) (lv' := [some (.ref 0), some (.int (I 111 1))]) (st' := [.int (I 111 1)]) (I' := (tq_u I 111 1 (nI 0))) (J' := J) rfl ?_
  exact EV_iret C hZ rfl (by decide +kernel) (Nat.le_refl _) (Nat.le_refl _) ⟨tq_some (by simp only [r_X11_clearText]), rfl, rfl, by simp only [I_X11_clearText], rfl⟩
def r_X11_textFault (I : tq_I)  (w h o c L : Nat) : Int32 := (r_X4_faultOf I L)
def I_X11_textFault (I : tq_I)  (w h o c L : Nat) : tq_I := (I_X4_faultOf I L)
set_option maxRecDepth 20000 in
theorem c_X11_textFault (g : tq_G) (rest : List tq_S) (I : tq_I) (J : Int64)  (w h o c L : Nat) (k : tq_ok I w h o c L)  : CT g mX11_textFault 5 0 0 [.ref 0] (tq_SC ++ rest) tq_RR I J (tq_ret (tq_SC ++ rest) tq_RR (some (.int (r_X11_textFault I w h o c L))) (I_X11_textFault I w h o c L) J) := by
  refine CT.ret kX11_textFault (Nat.le_of_ble_eq_true rfl) (fun x0 C hR hZ => ?_)
  refine EV_en (lv' := [some (.ref 0)]) 0 rfl ?_
  refine EV_blk (own := 11) C rfl [(.aload_n 0, 0, 0, 0, 0), (.getfield 57, 11, 7, 375, 0), (.aload_n 0, 0, 0, 0, 0), (.getfield 47, 11, 5, 373, 0)] (pc' := 8) (by decide +kernel) (lv' := [some (.ref 0)]) (st' := [.ref 111, .ref 115]) (I' := I) (J' := J) rfl ?_
  refine EV_cV (own := 11) (idx := 276) (μ' := mX4_faultOf) (b := 115) (cb := 4) (av := [.ref 111]) (rest := []) C hR rfl (Or.inl ⟨806, by decide⟩) kX4_faultOf sX4_faultOf (c_X4_faultOf g rest I J L k.hL k.L150) rfl rfl (by decide +kernel) rfl (by decide) (Nat.le_of_ble_eq_true rfl) rfl ⟨Nat.zero_le _, Nat.zero_le _⟩ ?_
  exact EV_iret C hZ rfl (by decide +kernel) (Nat.le_refl _) (Nat.le_refl _) ⟨tq_some (by simp only [r_X11_textFault]), rfl, rfl, by simp only [I_X11_textFault], rfl⟩
def r_X11_written (I : tq_I) (v : Int32) (w h o c L : Nat) : Int32 := (if v < 0 then (-2) else (if (I 113 1) ≤ v then (-2) else (I 114 (tq_N v))))
set_option maxRecDepth 20000 in
theorem c_X11_written (g : tq_G) (rest : List tq_S) (I : tq_I) (J : Int64) (v : Int32) (w h o c L : Nat) (k : tq_ok I w h o c L)  : CT g mX11_written 0 0 0 [.ref 0, .int v] (tq_SC ++ rest) tq_RR I J (tq_ret (tq_SC ++ rest) tq_RR (some (.int (r_X11_written I v w h o c L))) I J) := by
  refine CT.ret kX11_written (Nat.le_of_ble_eq_true rfl) (fun x0 C hR hZ => ?_)
  refine EV_en (lv' := [some (.ref 0), some (.int v)]) 0 rfl ?_
  refine EV_blk (own := 11) C rfl [(.iload_n 1, 0, 0, 0, 0)] (pc' := 1) (by decide +kernel) (lv' := [some (.ref 0), some (.int v)]) (st' := [.int v]) (I' := I) (J' := J) rfl ?_
  refine EV_if_lt (off := 26) (tgt := 27) C (by decide +kernel) (by decide) (fun hlt0 => ?_) (fun hlt0 => ?_)
  · skip
    refine EV_blk (own := 11) C rfl [(.bipush (-2), 0, 0, 0, (-2))] (pc' := 29) (by decide +kernel) (lv' := [some (.ref 0), some (.int v)]) (st' := [.int (-2)]) (I' := I) (J' := J) rfl ?_
    exact EV_iret C hZ rfl (by decide +kernel) (Nat.le_refl _) (Nat.le_refl _) ⟨tq_some (by simp only [r_X11_written, if_pos hlt0]), rfl, rfl, rfl, rfl⟩
  · skip
    refine EV_blk (own := 11) C rfl [(.iload_n 1, 0, 0, 0, 0), (.aload_n 0, 0, 0, 0, 0), (.getfield 51, 11, 6, 374, 0), (.getfield 269, 0, 1, 314, 0)] (pc' := 12) (by decide +kernel) (lv' := [some (.ref 0), some (.int v)]) (st' := [.int (I 113 1), .int v]) (I' := I) (J' := J) rfl ?_
    refine EV_icmp_ge (off := 15) (tgt := 27) C (by decide +kernel) (by decide) (fun h1 => ?_) (fun h1 => ?_)
    · skip
      refine EV_blk (own := 11) C rfl [(.bipush (-2), 0, 0, 0, (-2))] (pc' := 29) (by decide +kernel) (lv' := [some (.ref 0), some (.int v)]) (st' := [.int (-2)]) (I' := I) (J' := J) rfl ?_
      exact EV_iret C hZ rfl (by decide +kernel) (Nat.le_refl _) (Nat.le_refl _) ⟨tq_some (by simp only [r_X11_written, if_neg hlt0, if_pos h1]), rfl, rfl, rfl, rfl⟩
    · skip
      have hv0 : 0 ≤ v.toInt := by simp (disch := omega) only [Int32.lt_iff_toInt_lt, Int32.toInt_zero] at hlt0; omega
      have hv1 : v.toInt < (I 113 1).toInt := by have hq := h1; simp only [Int32.le_iff_toInt_le] at hq; omega
      refine EV_blk (own := 11) C rfl [(.aload_n 0, 0, 0, 0, 0), (.getfield 51, 11, 6, 374, 0), (.getfield 299, 0, 0, 311, 0), (.iload_n 1, 0, 0, 0, 0)] (pc' := 23) (by decide +kernel) (lv' := [some (.ref 0), some (.int v)]) (st' := [.int v, .ref 114]) (I' := I) (J' := J) rfl ?_
      refine EV_iald (j := (tq_N v)) C (by decide +kernel) rfl (tq_NI hv0) (tq_Nlt hv0 (by have := k.out; omega)) ?_
      refine EV_blk (own := 11) C rfl [(.goto 5, 0, 0, 0, 0)] (pc' := 29) (by decide +kernel) (lv' := [some (.ref 0), some (.int v)]) (st' := [.int (I 114 (tq_N v))]) (I' := I) (J' := J) rfl ?_
      exact EV_iret C hZ rfl (by decide +kernel) (Nat.le_refl _) (Nat.le_refl _) ⟨tq_some (by simp only [r_X11_written, if_neg hlt0, if_neg h1]), rfl, rfl, rfl, rfl⟩
