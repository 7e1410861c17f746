/-! regions, flood, fill, raise -/
theorem tq_ok.rgn {I K : tq_I} {w h o c L : Nat} (k : tq_ok I w h o c L) (hn : ∀ cz, cz ≠ 99 ∧ cz ≠ 100 ∧ cz ≠ 101 → ∀ jz, K cz jz = I cz jz) (hr : tq_rg K) : tq_ok K w h o c L := by
  have e : ∀ cz, cz ≠ 99 ∧ cz ≠ 100 ∧ cz ≠ 101 → K cz = I cz := fun cz hz => funext fun jz => hn cz hz jz
  refine ⟨?_, ?_, ?_, ?_, ⟨?_, ?_, k.o5, k.c5, fun m hm => ?_⟩, ⟨hr.1, hr.2.1, hr.2.2.1⟩, ?_, ?_⟩
  · rw [e 2 (by decide)]; exact k.1
  · rw [e 3 (by decide)]; exact k.2.1
  · rw [e 6 (by decide), e 7 (by decide), e 5 (by decide)]; exact k.2.2.1
  · unfold tq_cv
    rw [e 13 (by decide), e 14 (by decide)]; exact k.cv
  · rw [e 17 (by decide)]; exact k.ho
  · rw [e 17 (by decide)]; exact k.hc
  · rw [e (23 + 16 * m) (by omega)]
    exact k.hbd m hm
  · rw [e 111 (by decide)]; exact k.2.2.2.2.2.2.1
  · rw [e 113 (by decide)]; exact k.2.2.2.2.2.2.2
theorem tq_ok.gather {I : tq_I} {w h o c L : Nat} (k : tq_ok I w h o c L) (x y : Nat) : tq_ok (I_X5_gather I x y) w h o c L := k.rgn (fun cz hz jz => fr_X5_gather _ _ _ hz jz) (tq_rg_gather k.rg)
theorem tq_ok.forget {I : tq_I} {w h o c L : Nat} (k : tq_ok I w h o c L) : tq_ok (I_X5_forget I) w h o c L := k.cong (fun cz hz jz => by
  have : cz ≠ 100 := by
    simp only [List.mem_cons, List.not_mem_nil, or_false] at hz
    omega
  exact fr_X5_forget _ this jz)
def f_rg1 (t : Int32) (y : Nat) (w h o c L : Nat) (i : Nat) (a : Int32 × tq_I) : Int32 × tq_I := (if (a.2 3 (y * 11 + i)) = t then (if (tq_b (a.2 100 (tq_N (nI y) * 11 + tq_N (nI i)) = nI 1)) = 0 then ((a.1 + (nI 1)), (I_X5_gather a.2 i y)) else (a.1, a.2)) else (a.1, a.2))
set_option maxRecDepth 20000 in
theorem lp_rg1 {g : tq_G} {rest : List tq_S} {x0 : tq_X} (C : tq_C g mX11_regions x0) (hR : tq_ht x0 4 0 0) (J : Int64) (t : Int32) (y : Nat) (w h o c L : Nat) (hw10 : w ≤ 10) (hy : y ≤ 10) : ∀ (n i : Nat) (a : Int32 × tq_I), i + n = w + 1 → tq_ok a.2 w h o c L → EV g mX11_regions x0 0 0 109 [some (.ref 0), some (.int t), some (.int ((tq_it (f_rg1 t y w h o c L) n i a).1)), some (.int (nI y)), some (.int (nI (i + n)))] [] (tq_SC ++ rest) tq_RR ((tq_it (f_rg1 t y w h o c L) n i a).2) J → EV g mX11_regions x0 0 0 38 [some (.ref 0), some (.int t), some (.int a.1), some (.int (nI y)), some (.int (nI i))] [] (tq_SC ++ rest) tq_RR a.2 J := by
  intro n
  induction n with
  | zero =>
    intro i a hi hI kk
    rw [Nat.add_zero] at kk
    refine EV_blk (own := 11) C rfl [(.iload 4, 0, 0, 0, 0), (.aload_n 0, 0, 0, 0, 0), (.getfield 12, 11, 0, 368, 0), (.getfield 77, 8, 0, 193, 0), (.getfield 81, 3, 0, 98, 0)] (pc' := 50) (by decide +kernel) (lv' := [some (.ref 0), some (.int t), some (.int a.1), some (.int (nI y)), some (.int (nI i))]) (st' := [.int (a.2 2 0), .int (nI i)]) (I' := a.2) (J' := J) rfl ?_
    refine EV_icmp_gt (off := 59) (tgt := 109) C (by decide +kernel) (by decide) (fun h1 => ?_) (fun h1 => ?_)
    · skip
      exact kk
    · skip
      exact absurd h1 (by simp (disch := omega) only [Int32.lt_iff_toInt_lt, Int32.le_iff_toInt_le, Int32.toInt_zero, nI_toInt, tq_m1, hI.hw]; omega)
  | succ n ih =>
    intro i a hi hI kk
    rw [show i + (n + 1) = (i + 1) + n by omega] at kk
    refine EV_blk (own := 11) C rfl [(.iload 4, 0, 0, 0, 0), (.aload_n 0, 0, 0, 0, 0), (.getfield 12, 11, 0, 368, 0), (.getfield 77, 8, 0, 193, 0), (.getfield 81, 3, 0, 98, 0)] (pc' := 50) (by decide +kernel) (lv' := [some (.ref 0), some (.int t), some (.int a.1), some (.int (nI y)), some (.int (nI i))]) (st' := [.int (a.2 2 0), .int (nI i)]) (I' := a.2) (J' := J) rfl ?_
    refine EV_icmp_gt (off := 59) (tgt := 109) C (by decide +kernel) (by decide) (fun h1 => ?_) (fun h1 => ?_)
    · skip
      exact absurd h1 (by simp (disch := omega) only [Int32.lt_iff_toInt_lt, Int32.le_iff_toInt_le, Int32.toInt_zero, nI_toInt, tq_m1, hI.hw]; omega)
    · skip
      refine EV_blk (own := 11) C rfl [(.aload_n 0, 0, 0, 0, 0), (.getfield 12, 11, 0, 368, 0), (.getfield 77, 8, 0, 193, 0), (.iload 4, 0, 0, 0, 0), (.iload_n 3, 0, 0, 0, 0)] (pc' := 63) (by decide +kernel) (lv' := [some (.ref 0), some (.int t), some (.int a.1), some (.int (nI y)), some (.int (nI i))]) (st' := [.int (nI y), .int (nI i), .ref 2]) (I' := a.2) (J' := J) rfl ?_
      refine EV_cV (own := 11) (idx := 98) (μ' := mX3_terrainAt) (b := 2) (cb := 3) (av := [.int (nI i), .int (nI y)]) (rest := []) C hR rfl (Or.inl ⟨454, by decide⟩) kX3_terrainAt sX3_terrainAt (c_X3_terrainAt g rest a.2 J i y (by omega) (by omega)) rfl rfl (by decide +kernel) rfl (by decide) (Nat.le_of_ble_eq_true rfl) rfl ⟨Nat.zero_le _, Nat.zero_le _⟩ ?_
      refine EV_blk (own := 11) C rfl [(.iload_n 1, 0, 0, 0, 0)] (pc' := 67) (by decide +kernel) (lv' := [some (.ref 0), some (.int t), some (.int a.1), some (.int (nI y)), some (.int (nI i))]) (st' := [.int t, .int (a.2 3 (y * 11 + i))]) (I' := a.2) (J' := J) rfl ?_
      refine EV_icmp_ne (off := 36) (tgt := 103) C (by decide +kernel) (by decide) (fun h2 => ?_) (fun h2 => ?_)
      · skip
        refine EV_blk (own := 11) C rfl [(.iinc 4 1, 0, 0, 0, (nI 1)), (.goto (-68), 0, 0, 0, 0)] (pc' := 38) (by decide +kernel) (lv' := [some (.ref 0), some (.int t), some (.int a.1), some (.int (nI y)), some (.int ((nI i) + (nI 1)))]) (st' := []) (I' := a.2) (J' := J) rfl ?_
        rw [show ((nI i) + (nI 1)) = (nI (i + 1)) from by simp (disch := omega) only [nI_add, tq_mul] <;> exact congrArg nI (by omega)]
        rw [tq_its, show (f_rg1 t y w h o c L) i a = (a.1, a.2) from by simp only [f_rg1, if_neg h1, if_neg h2]] at kk
        have ihx := ih (i + 1) (a.1, a.2) (by omega)
        dsimp only at ihx
        exact ihx (by first | exact hI | exact tq_ok.gather hI i y) kk
      · skip
        refine EV_blk (own := 11) C rfl [(.aload_n 0, 0, 0, 0, 0), (.getfield 26, 11, 2, 370, 0), (.iload 4, 0, 0, 0, 0), (.iload_n 3, 0, 0, 0, 0)] (pc' := 77) (by decide +kernel) (lv' := [some (.ref 0), some (.int t), some (.int a.1), some (.int (nI y)), some (.int (nI i))]) (st' := [.int (nI y), .int (nI i), .ref 99]) (I' := a.2) (J' := J) rfl ?_
        refine EV_cV (own := 11) (idx := 150) (μ' := mX5_knows) (b := 99) (cb := 5) (av := [.int (nI i), .int (nI y)]) (rest := []) C hR rfl (Or.inl ⟨538, by decide⟩) kX5_knows sX5_knows (c_X5_knows g rest a.2 J (nI i) (nI y) (by rw [nI_toInt (by omega)]; omega) (by rw [nI_toInt (by omega)]; omega) (by rw [nI_toInt (by omega)]; omega) (by rw [nI_toInt (by omega)]; omega)) rfl rfl (by decide +kernel) rfl (by decide) (Nat.le_of_ble_eq_true rfl) rfl ⟨Nat.zero_le _, Nat.zero_le _⟩ ?_
        refine EV_if_ne (off := 23) (tgt := 103) C (by decide +kernel) (by decide) (fun h3 => ?_) (fun h3 => ?_)
        · skip
          refine EV_blk (own := 11) C rfl [(.iinc 4 1, 0, 0, 0, (nI 1)), (.goto (-68), 0, 0, 0, 0)] (pc' := 38) (by decide +kernel) (lv' := [some (.ref 0), some (.int t), some (.int a.1), some (.int (nI y)), some (.int ((nI i) + (nI 1)))]) (st' := []) (I' := a.2) (J' := J) rfl ?_
          rw [show ((nI i) + (nI 1)) = (nI (i + 1)) from by simp (disch := omega) only [nI_add, tq_mul] <;> exact congrArg nI (by omega)]
          rw [tq_its, show (f_rg1 t y w h o c L) i a = (a.1, a.2) from by simp only [f_rg1, if_neg h1, if_pos h2, if_neg h3]] at kk
          have ihx := ih (i + 1) (a.1, a.2) (by omega)
          dsimp only at ihx
          exact ihx (by first | exact hI | exact tq_ok.gather hI i y) kk
        · skip
          refine EV_blk (own := 11) C rfl [(.aload_n 0, 0, 0, 0, 0), (.getfield 26, 11, 2, 370, 0), (.aload_n 0, 0, 0, 0, 0), (.getfield 12, 11, 0, 368, 0), (.getfield 77, 8, 0, 193, 0), (.iload 4, 0, 0, 0, 0), (.iload_n 3, 0, 0, 0, 0)] (pc' := 97) (by decide +kernel) (lv' := [some (.ref 0), some (.int t), some (.int a.1), some (.int (nI y)), some (.int (nI i))]) (st' := [.int (nI y), .int (nI i), .ref 2, .ref 99]) (I' := a.2) (J' := J) rfl ?_
          refine EV_cV (own := 11) (idx := 121) (μ' := mX5_gather) (b := 99) (cb := 5) (av := [.ref 2, .int (nI i), .int (nI y)]) (rest := []) C hR rfl (Or.inl ⟨494, by decide⟩) kX5_gather sX5_gather (c_X5_gather g rest a.2 J i y (by omega) (by omega) hI.rg) rfl rfl (by decide +kernel) rfl (by decide) (Nat.le_of_ble_eq_true rfl) rfl ⟨Nat.zero_le _, Nat.zero_le _⟩ ?_
          refine EV_blk (own := 11) C rfl [(.iinc 2 1, 0, 0, 0, (nI 1)), (.iinc 4 1, 0, 0, 0, (nI 1)), (.goto (-68), 0, 0, 0, 0)] (pc' := 38) (by decide +kernel) (lv' := [some (.ref 0), some (.int t), some (.int (a.1 + (nI 1))), some (.int (nI y)), some (.int ((nI i) + (nI 1)))]) (st' := []) (I' := (I_X5_gather a.2 i y)) (J' := J) rfl ?_
          rw [show ((nI i) + (nI 1)) = (nI (i + 1)) from by simp (disch := omega) only [nI_add, tq_mul] <;> exact congrArg nI (by omega)]
          rw [tq_its, show (f_rg1 t y w h o c L) i a = ((a.1 + (nI 1)), (I_X5_gather a.2 i y)) from by simp only [f_rg1, if_neg h1, if_pos h2, if_pos h3]] at kk
          have ihx := ih (i + 1) ((a.1 + (nI 1)), (I_X5_gather a.2 i y)) (by omega)
          dsimp only at ihx
          exact ihx (by first | exact hI | exact tq_ok.gather hI i y) kk
theorem fr_rg1 (t : Int32) (y : Nat) (w h o c L : Nat) {cz : Nat} (hc : cz ≠ 99 ∧ cz ≠ 100 ∧ cz ≠ 101) (n i : Nat) (a : Int32 × tq_I) (jz : Nat) : (tq_it (f_rg1 t y w h o c L) n i a).2 cz jz = a.2 cz jz := by
  obtain ⟨hc0, hc1, hc2⟩ := hc
  refine tq_itF2 (fun i a j => ?_) n i a jz
  simp only [f_rg1]
  (repeat' split) <;> simp (disch := first | assumption | (simp only [ne_eq] at *; simp [*])) [tq_u, tq_cp, hc0, hc1, hc2, fr_tb1, fr_tb2, fr_X8_touchBlock, fr_X8_touchAll, fr_X8_changeCorner, fr_X8_changePath, fr_cb1, fr_cb2, fr_X8_changeBlock, fr_wipe1, fr_X1_wipe, fr_sm1, fr_sm2, fr_X8_startMap, fr_X6_place, fr_mt1, fr_mt2, fr_X6_moveTo, fr_ch2, fr_X10_choose, fr_X1_take, fr_fgt1, fr_X5_forget, fr_X5_meet, fr_gat1, fr_X5_gather, fr_dl1, fr_dl2, fr_X7_drawLayers, fr_dp1, fr_X7_drawPieces, fr_dr1, fr_X7_draw, fr_X9_add, fr_ac1, fr_X9_addCell, fr_tk0, fr_tk1, fr_tk2, fr_X9_take, fr_append111, fr_append113, fr_X4_acceptRowEnd, fr_X4_acceptNumber, fr_al1, fr_X4_acceptLetter, fr_X4_accept, fr_X11_touchAllIf, fr_X11_staleAt, fr_st1, fr_st2, fr_X11_writeItem, fr_wr1, fr_X11_writeRow, fr_wr2, fr_X11_write]
theorem tq_ok.rg1 {a : Int32 × tq_I} {t : Int32} {y w h o c L : Nat} (k : tq_ok a.2 w h o c L) (n i : Nat) : tq_ok (tq_it (f_rg1 t y w h o c L) n i a).2 w h o c L := tq_itP (fun b => tq_ok b.2 w h o c L) (fun i b hb => by
  simp only [f_rg1]
  (repeat' split) <;> (try dsimp only) <;> first | exact hb | exact tq_ok.gather hb i y) n i a k
def f_rg2 (t : Int32) (w h o c L : Nat) (i : Nat) (a : Int32 × tq_I) : Int32 × tq_I := ((tq_it (f_rg1 t i w h o c L) (w + 1) 0 (a.1, a.2)).1, (tq_it (f_rg1 t i w h o c L) (w + 1) 0 (a.1, a.2)).2)
set_option maxRecDepth 20000 in
theorem lp_rg2 {g : tq_G} {rest : List tq_S} {x0 : tq_X} (C : tq_C g mX11_regions x0) (hR : tq_ht x0 4 0 0) (J : Int64) (t : Int32) (w h o c L : Nat) (hw10 : w ≤ 10) (hh10 : h ≤ 10) : ∀ (n i : Nat) (a : Int32 × tq_I), i + n = h + 1 → tq_ok a.2 w h o c L → EV g mX11_regions x0 0 0 115 [some (.ref 0), some (.int t), some (.int ((tq_it (f_rg2 t w h o c L) n i a).1)), some (.int (nI (i + n))), none] [] (tq_SC ++ rest) tq_RR ((tq_it (f_rg2 t w h o c L) n i a).2) J → EV g mX11_regions x0 0 0 21 [some (.ref 0), some (.int t), some (.int a.1), some (.int (nI i)), none] [] (tq_SC ++ rest) tq_RR a.2 J := by
  intro n
  induction n with
  | zero =>
    intro i a hi hI kk
    rw [Nat.add_zero] at kk
    refine EV_blk (own := 11) C rfl [(.iload_n 3, 0, 0, 0, 0), (.aload_n 0, 0, 0, 0, 0), (.getfield 12, 11, 0, 368, 0), (.getfield 77, 8, 0, 193, 0), (.getfield 87, 3, 1, 102, 0)] (pc' := 32) (by decide +kernel) (lv' := [some (.ref 0), some (.int t), some (.int a.1), some (.int (nI i)), none]) (st' := [.int (a.2 2 1), .int (nI i)]) (I' := a.2) (J' := J) rfl ?_
    refine EV_icmp_gt (off := 83) (tgt := 115) C (by decide +kernel) (by decide) (fun h1 => ?_) (fun h1 => ?_)
    · skip
      exact kk
    · skip
      exact absurd h1 (by simp (disch := omega) only [Int32.lt_iff_toInt_lt, Int32.le_iff_toInt_le, Int32.toInt_zero, nI_toInt, tq_m1, hI.hh]; omega)
  | succ n ih =>
    intro i a hi hI kk
    rw [show i + (n + 1) = (i + 1) + n by omega] at kk
    refine EV_blk (own := 11) C rfl [(.iload_n 3, 0, 0, 0, 0), (.aload_n 0, 0, 0, 0, 0), (.getfield 12, 11, 0, 368, 0), (.getfield 77, 8, 0, 193, 0), (.getfield 87, 3, 1, 102, 0)] (pc' := 32) (by decide +kernel) (lv' := [some (.ref 0), some (.int t), some (.int a.1), some (.int (nI i)), none]) (st' := [.int (a.2 2 1), .int (nI i)]) (I' := a.2) (J' := J) rfl ?_
    refine EV_icmp_gt (off := 83) (tgt := 115) C (by decide +kernel) (by decide) (fun h1 => ?_) (fun h1 => ?_)
    · skip
      exact absurd h1 (by simp (disch := omega) only [Int32.lt_iff_toInt_lt, Int32.le_iff_toInt_le, Int32.toInt_zero, nI_toInt, tq_m1, hI.hh]; omega)
    · skip
      refine EV_blk (own := 11) C rfl [(.iconst 0, 0, 0, 0, (nI 0)), (.istore 4, 0, 0, 0, 0)] (pc' := 38) (by decide +kernel) (lv' := [some (.ref 0), some (.int t), some (.int a.1), some (.int (nI i)), some (.int (nI 0))]) (st' := []) (I' := a.2) (J' := J) rfl ?_
      refine lp_rg1 C hR J t i w h o c L hw10 (by omega) (w + 1) 0 (a.1, a.2) (by omega) hI ?_
      refine EV_blk (own := 11) C rfl [(.iinc 3 1, 0, 0, 0, (nI 1)), (.goto (-91), 0, 0, 0, 0)] (pc' := 21) (by decide +kernel) (lv' := [some (.ref 0), some (.int t), some (.int ((tq_it (f_rg1 t i w h o c L) (w + 1) 0 (a.1, a.2)).1)), some (.int ((nI i) + (nI 1))), some (.int (nI ((0 + (w + 1)))))]) (st' := []) (I' := (tq_it (f_rg1 t i w h o c L) (w + 1) 0 (a.1, a.2)).2) (J' := J) rfl ?_
      refine EV_fg (lv' := [some (.ref 0), some (.int t), some (.int ((tq_it (f_rg1 t i w h o c L) (w + 1) 0 (a.1, a.2)).1)), some (.int ((nI i) + (nI 1))), none]) ⟨rfl, rfl, rfl, rfl, trivial⟩ ?_
      rw [show ((nI i) + (nI 1)) = (nI (i + 1)) from by simp (disch := omega) only [nI_add, tq_mul] <;> exact congrArg nI (by omega)]
      rw [tq_its, show (f_rg2 t w h o c L) i a = ((tq_it (f_rg1 t i w h o c L) (w + 1) 0 (a.1, a.2)).1, (tq_it (f_rg1 t i w h o c L) (w + 1) 0 (a.1, a.2)).2) from by simp only [f_rg2, if_neg h1]] at kk
      exact ih (i + 1) ((tq_it (f_rg1 t i w h o c L) (w + 1) 0 (a.1, a.2)).1, (tq_it (f_rg1 t i w h o c L) (w + 1) 0 (a.1, a.2)).2) (by omega) (tq_ok.rg1 (a := (a.1, a.2)) hI _ _) kk
theorem fr_rg2 (t : Int32) (w h o c L : Nat) {cz : Nat} (hc : cz ≠ 99 ∧ cz ≠ 100 ∧ cz ≠ 101) (n i : Nat) (a : Int32 × tq_I) (jz : Nat) : (tq_it (f_rg2 t w h o c L) n i a).2 cz jz = a.2 cz jz := by
  obtain ⟨hc0, hc1, hc2⟩ := hc
  refine tq_itF2 (fun i a j => ?_) n i a jz
  simp only [f_rg2]
  (repeat' split) <;> simp (disch := first | assumption | (simp only [ne_eq] at *; simp [*])) [tq_u, tq_cp, hc0, hc1, hc2, fr_tb1, fr_tb2, fr_X8_touchBlock, fr_X8_touchAll, fr_X8_changeCorner, fr_X8_changePath, fr_cb1, fr_cb2, fr_X8_changeBlock, fr_wipe1, fr_X1_wipe, fr_sm1, fr_sm2, fr_X8_startMap, fr_X6_place, fr_mt1, fr_mt2, fr_X6_moveTo, fr_ch2, fr_X10_choose, fr_X1_take, fr_fgt1, fr_X5_forget, fr_X5_meet, fr_gat1, fr_X5_gather, fr_dl1, fr_dl2, fr_X7_drawLayers, fr_dp1, fr_X7_drawPieces, fr_dr1, fr_X7_draw, fr_X9_add, fr_ac1, fr_X9_addCell, fr_tk0, fr_tk1, fr_tk2, fr_X9_take, fr_append111, fr_append113, fr_X4_acceptRowEnd, fr_X4_acceptNumber, fr_al1, fr_X4_acceptLetter, fr_X4_accept, fr_X11_touchAllIf, fr_X11_staleAt, fr_st1, fr_st2, fr_X11_writeItem, fr_wr1, fr_X11_writeRow, fr_wr2, fr_X11_write, fr_rg1]
def r_X11_regions (I : tq_I) (t : Int32) (w h o c L : Nat) : Int32 := (if (tq_b ((nI 0).toInt ≤ t.toInt ∧ t.toInt ≤ (nI 5).toInt)) = 0 then (-2) else (tq_it (f_rg2 t w h o c L) (h + 1) 0 ((nI 0), (I_X5_forget I))).1)
def I_X11_regions (I : tq_I) (t : Int32) (w h o c L : Nat) : tq_I := (if (tq_b ((nI 0).toInt ≤ t.toInt ∧ t.toInt ≤ (nI 5).toInt)) = 0 then I else (tq_it (f_rg2 t w h o c L) (h + 1) 0 ((nI 0), (I_X5_forget I))).2)
set_option maxRecDepth 20000 in
theorem c_X11_regions (g : tq_G) (rest : List tq_S) (I : tq_I) (J : Int64) (t : Int32) (w h o c L : Nat) (k : tq_ok I w h o c L)  : CT g mX11_regions 4 0 0 [.ref 0, .int t] (tq_SC ++ rest) tq_RR I J (tq_ret (tq_SC ++ rest) tq_RR (some (.int (r_X11_regions I t w h o c L))) (I_X11_regions I t w h o c L) J) := by
  refine CT.ret kX11_regions (Nat.le_of_ble_eq_true rfl) (fun x0 C hR hZ => ?_)
  refine EV_en (lv' := [some (.ref 0), some (.int t), none, none, none]) 3 rfl ?_
  refine EV_blk (own := 11) C rfl [(.iload_n 1, 0, 0, 0, 0)] (pc' := 1) (by decide +kernel) (lv' := [some (.ref 0), some (.int t), none, none, none]) (st' := [.int t]) (I' := I) (J' := J) rfl ?_
  refine EV_cS (own := 11) (idx := 65) (μ' := mX11_isTerrain) (av := [.int t]) (rest := []) C hR rfl (Or.inl ⟨397, by decide⟩) kX11_isTerrain sX11_isTerrain (c_X11_isTerrain g rest I J t ) (by decide +kernel) rfl (by decide) (Nat.le_of_ble_eq_true rfl) rfl ⟨Nat.zero_le _, Nat.zero_le _⟩ ?_
  refine EV_if_ne (off := 6) (tgt := 10) C (by decide +kernel) (by decide) (fun h1 => ?_) (fun h1 => ?_)
  · skip
    have ht := tq_t05 (tq_b10 h1)
    refine EV_blk (own := 11) C rfl [(.aload_n 0, 0, 0, 0, 0), (.getfield 26, 11, 2, 370, 0)] (pc' := 14) (by decide +kernel) (lv' := [some (.ref 0), some (.int t), none, none, none]) (st' := [.ref 99]) (I' := I) (J' := J) rfl ?_
    refine EV_cV (own := 11) (idx := 118) (μ' := mX5_forget) (b := 99) (cb := 5) (av := []) (rest := []) C hR rfl (Or.inl ⟨490, by decide⟩) kX5_forget sX5_forget (c_X5_forget g rest I J  ) rfl rfl (by decide +kernel) rfl (by decide) (Nat.le_of_ble_eq_true rfl) rfl ⟨Nat.zero_le _, Nat.zero_le _⟩ ?_
    refine EV_blk (own := 11) C rfl [(.iconst 0, 0, 0, 0, (nI 0)), (.istore_n 2, 0, 0, 0, 0), (.iconst 0, 0, 0, 0, (nI 0)), (.istore_n 3, 0, 0, 0, 0)] (pc' := 21) (by decide +kernel) (lv' := [some (.ref 0), some (.int t), some (.int (nI 0)), some (.int (nI 0)), none]) (st' := []) (I' := (I_X5_forget I)) (J' := J) rfl ?_
    refine lp_rg2 C hR J t w h o c L k.w10 k.h10 (h + 1) 0 ((nI 0), (I_X5_forget I)) (by omega) k.forget ?_
    refine EV_blk (own := 11) C rfl [(.iload_n 2, 0, 0, 0, 0)] (pc' := 116) (by decide +kernel) (lv' := [some (.ref 0), some (.int t), some (.int ((tq_it (f_rg2 t w h o c L) (h + 1) 0 ((nI 0), (I_X5_forget I))).1)), some (.int (nI ((0 + (h + 1))))), none]) (st' := [.int ((tq_it (f_rg2 t w h o c L) (h + 1) 0 ((nI 0), (I_X5_forget I))).1)]) (I' := (tq_it (f_rg2 t w h o c L) (h + 1) 0 ((nI 0), (I_X5_forget I))).2) (J' := J) rfl ?_
    exact EV_iret C hZ rfl (by decide +kernel) (Nat.le_refl _) (Nat.le_refl _) ⟨tq_some (by simp only [r_X11_regions, if_neg h1]), rfl, rfl, by simp only [I_X11_regions, if_neg h1], rfl⟩
  · skip
    refine EV_blk (own := 11) C rfl [(.bipush (-2), 0, 0, 0, (-2))] (pc' := 9) (by decide +kernel) (lv' := [some (.ref 0), some (.int t), none, none, none]) (st' := [.int (-2)]) (I' := I) (J' := J) rfl ?_
    exact EV_iret C hZ rfl (by decide +kernel) (Nat.le_refl _) (Nat.le_refl _) ⟨tq_some (by simp only [r_X11_regions, if_pos h1]), rfl, rfl, by simp only [I_X11_regions, if_pos h1], rfl⟩
theorem fr_X11_regions (I : tq_I) (t : Int32) (w h o c L : Nat) {cz : Nat} (hc : cz ≠ 99 ∧ cz ≠ 100 ∧ cz ≠ 101) (jz : Nat) : I_X11_regions I t w h o c L cz jz = I cz jz := by
  obtain ⟨hc0, hc1, hc2⟩ := hc
  simp only [I_X11_regions]
  (repeat' split) <;> simp (disch := first | assumption | (simp only [ne_eq] at *; simp [*])) [tq_u, tq_cp, hc0, hc1, hc2, fr_tb1, fr_tb2, fr_X8_touchBlock, fr_X8_touchAll, fr_X8_changeCorner, fr_X8_changePath, fr_cb1, fr_cb2, fr_X8_changeBlock, fr_wipe1, fr_X1_wipe, fr_sm1, fr_sm2, fr_X8_startMap, fr_X6_place, fr_mt1, fr_mt2, fr_X6_moveTo, fr_ch2, fr_X10_choose, fr_X1_take, fr_fgt1, fr_X5_forget, fr_X5_meet, fr_gat1, fr_X5_gather, fr_dl1, fr_dl2, fr_X7_drawLayers, fr_dp1, fr_X7_drawPieces, fr_dr1, fr_X7_draw, fr_X9_add, fr_ac1, fr_X9_addCell, fr_tk0, fr_tk1, fr_tk2, fr_X9_take, fr_append111, fr_append113, fr_X4_acceptRowEnd, fr_X4_acceptNumber, fr_al1, fr_X4_acceptLetter, fr_X4_accept, fr_X11_touchAllIf, fr_X11_staleAt, fr_st1, fr_st2, fr_X11_writeItem, fr_wr1, fr_X11_writeRow, fr_wr2, fr_X11_write, fr_rg1, fr_rg2]
theorem tq_cc3 (I : tq_I) (x y : Nat) (t : Int32) (j : Nat) : I_X8_changeCorner I x y t 3 j = if j = y * 11 + x then t else I 3 j := by
  unfold I_X8_changeCorner
  split
  · rename_i h
    split
    · rename_i hj; rw [hj, h]
    · rfl
  · rw [fr_X8_touchBlock _ _ _ _ _ (by decide)]
    by_cases hj : j = y * 11 + x
    · rw [if_pos hj, hj, tq_u_same]
    · rw [if_neg hj, tq_u_slot hj]
theorem tq_ok.cc {I : tq_I} {w h o c L : Nat} (k : tq_ok I w h o c L) {t : Int32} (ht : 0 ≤ t.toInt ∧ t.toInt ≤ 5) (x y : Nat) : tq_ok (I_X8_changeCorner I x y t) w h o c L := by
  have e : ∀ cz, cz ≠ 3 ∧ cz ≠ 16 → I_X8_changeCorner I x y t cz = I cz := fun cz hz => funext fun jz => fr_X8_changeCorner _ _ _ _ hz jz
  refine ⟨?_, fun x1 y1 h1 h2 => ?_, ?_, ?_, ⟨?_, ?_, k.o5, k.c5, fun m hm => ?_⟩, ?_, ?_, ?_⟩
  · rw [e 2 (by decide)]; exact k.1
  · rw [tq_cc3]
    split
    · exact ht
    · exact k.ter x1 y1 h1 h2
  · rw [e 6 (by decide), e 7 (by decide), e 5 (by decide)]; exact k.2.2.1
  · unfold tq_cv
    rw [e 13 (by decide), e 14 (by decide)]; exact k.cv
  · rw [e 17 (by decide)]; exact k.ho
  · rw [e 17 (by decide)]; exact k.hc
  · rw [e (23 + 16 * m) (by omega)]
    exact k.hbd m hm
  · rw [e 101 (by decide), e 99 (by decide)]; exact k.2.2.2.2.2.1
  · rw [e 111 (by decide)]; exact k.2.2.2.2.2.2.1
  · rw [e 113 (by decide)]; exact k.2.2.2.2.2.2.2
theorem tq_N121 {v : Int32} (h : 0 ≤ v.toInt ∧ v.toInt ≤ 121) : tq_N v ≤ 121 := by unfold tq_N; omega
theorem tq_col {v : Int32} (h : 0 ≤ v.toInt) : tq_rem v (nI 11) = nI (tq_N v % 11) := by
  have h2 : v.toInt < 2 ^ 31 := Int32.toInt_lt v
  have h3 : tq_N v < 2 ^ 31 := by unfold tq_N; omega
  conv => lhs; rw [tq_nIN h]
  exact tq_rem_nI h3 (by decide)
theorem tq_row {v : Int32} (h : 0 ≤ v.toInt) : v / (nI 11) = nI (tq_N v / 11) := by
  have h2 : v.toInt < 2 ^ 31 := Int32.toInt_lt v
  have h3 : tq_N v < 2 ^ 31 := by unfold tq_N; omega
  conv => lhs; rw [tq_nIN h]
  exact tq_div_nI h3 (by decide)
def f_fl1 (x y : Nat) (t : Int32) (q : Nat) (w h o c L : Nat) (i : Nat) (a : Int32 × tq_I) : Int32 × tq_I := ((a.1 + (r_X8_changeCorner a.2 (tq_N (a.2 101 i) % 11) (tq_N (a.2 101 i) / 11) t)), (I_X8_changeCorner a.2 (tq_N (a.2 101 i) % 11) (tq_N (a.2 101 i) / 11) t))
set_option maxRecDepth 20000 in
theorem lp_fl1 {g : tq_G} {rest : List tq_S} {x0 : tq_X} (C : tq_C g mX11_flood x0) (hR : tq_ht x0 6 0 0) (J : Int64) (x y : Nat) (t : Int32) (q : Nat) (w h o c L : Nat) (ht : 0 ≤ t.toInt ∧ t.toInt ≤ 5) (hq : q ≤ 121) : ∀ (n i : Nat) (a : Int32 × tq_I), i + n = q → (tq_ok a.2 w h o c L ∧ a.2 99 2 = nI q) → EV g mX11_flood x0 0 0 114 [some (.ref 0), some (.int (nI x)), some (.int (nI y)), some (.int t), some (.int ((tq_it (f_fl1 x y t q w h o c L) n i a).1)), some (.int (nI (i + n)))] [] (tq_SC ++ rest) tq_RR ((tq_it (f_fl1 x y t q w h o c L) n i a).2) J → EV g mX11_flood x0 0 0 65 [some (.ref 0), some (.int (nI x)), some (.int (nI y)), some (.int t), some (.int a.1), some (.int (nI i))] [] (tq_SC ++ rest) tq_RR a.2 J := by
  intro n
  induction n with
  | zero =>
    intro i a hi hI kk
    rw [Nat.add_zero] at kk
    refine EV_blk (own := 11) C rfl [(.iload 5, 0, 0, 0, 0), (.aload_n 0, 0, 0, 0, 0), (.getfield 26, 11, 2, 370, 0), (.getfield 125, 5, 2, 236, 0)] (pc' := 74) (by decide +kernel) (lv' := [some (.ref 0), some (.int (nI x)), some (.int (nI y)), some (.int t), some (.int a.1), some (.int (nI i))]) (st' := [.int (a.2 99 2), .int (nI i)]) (I' := a.2) (J' := J) rfl ?_
    refine EV_icmp_ge (off := 40) (tgt := 114) C (by decide +kernel) (by decide) (fun h1 => ?_) (fun h1 => ?_)
    · skip
      exact kk
    · skip
      exact absurd h1 (by simp (disch := omega) only [Int32.lt_iff_toInt_lt, Int32.le_iff_toInt_le, Int32.toInt_zero, nI_toInt, tq_m1, hI.2]; omega)
  | succ n ih =>
    intro i a hi hI kk
    rw [show i + (n + 1) = (i + 1) + n by omega] at kk
    refine EV_blk (own := 11) C rfl [(.iload 5, 0, 0, 0, 0), (.aload_n 0, 0, 0, 0, 0), (.getfield 26, 11, 2, 370, 0), (.getfield 125, 5, 2, 236, 0)] (pc' := 74) (by decide +kernel) (lv' := [some (.ref 0), some (.int (nI x)), some (.int (nI y)), some (.int t), some (.int a.1), some (.int (nI i))]) (st' := [.int (a.2 99 2), .int (nI i)]) (I' := a.2) (J' := J) rfl ?_
    refine EV_icmp_ge (off := 40) (tgt := 114) C (by decide +kernel) (by decide) (fun h1 => ?_) (fun h1 => ?_)
    · skip
      exact absurd h1 (by simp (disch := omega) only [Int32.lt_iff_toInt_lt, Int32.le_iff_toInt_le, Int32.toInt_zero, nI_toInt, tq_m1, hI.2]; omega)
    · skip
      refine EV_blk (own := 11) C rfl [(.iload 4, 0, 0, 0, 0), (.aload_n 0, 0, 0, 0, 0), (.getfield 12, 11, 0, 368, 0), (.aload_n 0, 0, 0, 0, 0), (.getfield 26, 11, 2, 370, 0), (.iload 5, 0, 0, 0, 0)] (pc' := 89) (by decide +kernel) (lv' := [some (.ref 0), some (.int (nI x)), some (.int (nI y)), some (.int t), some (.int a.1), some (.int (nI i))]) (st' := [.int (nI i), .ref 99, .ref 1, .int a.1]) (I' := a.2) (J' := J) rfl ?_
      refine EV_cV (own := 11) (idx := 128) (μ' := mX5_columnOf) (b := 99) (cb := 5) (av := [.int (nI i)]) (rest := [.ref 1, .int a.1]) C hR rfl (Or.inl ⟨517, by decide⟩) kX5_columnOf sX5_columnOf (c_X5_columnOf g rest a.2 J i (by omega)) rfl rfl (by decide +kernel) rfl (by decide) (Nat.le_of_ble_eq_true rfl) rfl ⟨Nat.zero_le _, Nat.zero_le _⟩ ?_
      refine EV_blk (own := 11) C rfl [(.aload_n 0, 0, 0, 0, 0), (.getfield 26, 11, 2, 370, 0), (.iload 5, 0, 0, 0, 0)] (pc' := 98) (by decide +kernel) (lv' := [some (.ref 0), some (.int (nI x)), some (.int (nI y)), some (.int t), some (.int a.1), some (.int (nI i))]) (st' := [.int (nI i), .ref 99, .int (tq_rem (a.2 101 i) (nI 11)), .ref 1, .int a.1]) (I' := a.2) (J' := J) rfl ?_
      refine EV_cV (own := 11) (idx := 132) (μ' := mX5_rowOf) (b := 99) (cb := 5) (av := [.int (nI i)]) (rest := [.int (tq_rem (a.2 101 i) (nI 11)), .ref 1, .int a.1]) C hR rfl (Or.inl ⟨518, by decide⟩) kX5_rowOf sX5_rowOf (c_X5_rowOf g rest a.2 J i (by omega)) rfl rfl (by decide +kernel) rfl (by decide) (Nat.le_of_ble_eq_true rfl) rfl ⟨Nat.zero_le _, Nat.zero_le _⟩ ?_
      refine EV_blk (own := 11) C rfl [(.iload_n 3, 0, 0, 0, 0)] (pc' := 102) (by decide +kernel) (lv' := [some (.ref 0), some (.int (nI x)), some (.int (nI y)), some (.int t), some (.int a.1), some (.int (nI i))]) (st' := [.int t, .int ((a.2 101 i) / (nI 11)), .int (tq_rem (a.2 101 i) (nI 11)), .ref 1, .int a.1]) (I' := a.2) (J' := J) rfl ?_
      have hf := hI.1.fnd i (by omega)
      have hfN : tq_N (a.2 101 i) ≤ 120 := by unfold tq_N; omega
      refine EV_ste (st' := [.int t, .int (nI (tq_N (a.2 101 i) / 11)), .int (nI (tq_N (a.2 101 i) % 11)), .ref 1, .int a.1]) (by rw [tq_col hf.1, tq_row hf.1]) ?_
      refine EV_cV (own := 11) (idx := 102) (μ' := mX8_changeCorner) (b := 1) (cb := 8) (av := [.int (nI (tq_N (a.2 101 i) % 11)), .int (nI (tq_N (a.2 101 i) / 11)), .int t]) (rest := [.int a.1]) C hR rfl (Or.inl ⟨461, by decide⟩) kX8_changeCorner sX8_changeCorner (c_X8_changeCorner g rest a.2 J (tq_N (a.2 101 i) % 11) (tq_N (a.2 101 i) / 11) t (by omega) (by omega) hI.1.wh) rfl rfl (by decide +kernel) rfl (by decide) (Nat.le_of_ble_eq_true rfl) rfl ⟨Nat.zero_le _, Nat.zero_le _⟩ ?_
      refine EV_blk (own := 11) C rfl [(.iadd, 0, 0, 0, 0), (.istore 4, 0, 0, 0, 0), (.iinc 5 1, 0, 0, 0, (nI 1)), (.goto (-46), 0, 0, 0, 0)] (pc' := 65) (by decide +kernel) (lv' := [some (.ref 0), some (.int (nI x)), some (.int (nI y)), some (.int t), some (.int (a.1 + (r_X8_changeCorner a.2 (tq_N (a.2 101 i) % 11) (tq_N (a.2 101 i) / 11) t))), some (.int ((nI i) + (nI 1)))]) (st' := []) (I' := (I_X8_changeCorner a.2 (tq_N (a.2 101 i) % 11) (tq_N (a.2 101 i) / 11) t)) (J' := J) rfl ?_
      rw [show ((nI i) + (nI 1)) = (nI (i + 1)) from by simp (disch := omega) only [nI_add, tq_mul] <;> exact congrArg nI (by omega)]
      rw [tq_its, show (f_fl1 x y t q w h o c L) i a = ((a.1 + (r_X8_changeCorner a.2 (tq_N (a.2 101 i) % 11) (tq_N (a.2 101 i) / 11) t)), (I_X8_changeCorner a.2 (tq_N (a.2 101 i) % 11) (tq_N (a.2 101 i) / 11) t)) from by simp only [f_fl1, if_neg h1]] at kk
      have ihx := ih (i + 1) ((a.1 + (r_X8_changeCorner a.2 (tq_N (a.2 101 i) % 11) (tq_N (a.2 101 i) / 11) t)), (I_X8_changeCorner a.2 (tq_N (a.2 101 i) % 11) (tq_N (a.2 101 i) / 11) t)) (by omega)
      dsimp only at ihx
      exact ihx ⟨tq_ok.cc hI.1 ht _ _, by rw [fr_X8_changeCorner _ _ _ _ (by decide)]; exact hI.2⟩ kk
theorem fr_fl1 (x y : Nat) (t : Int32) (q : Nat) (w h o c L : Nat) {cz : Nat} (hc : cz ≠ 3 ∧ cz ≠ 16) (n i : Nat) (a : Int32 × tq_I) (jz : Nat) : (tq_it (f_fl1 x y t q w h o c L) n i a).2 cz jz = a.2 cz jz := by
  obtain ⟨hc0, hc1⟩ := hc
  refine tq_itF2 (fun i a j => ?_) n i a jz
  simp only [f_fl1]
  (repeat' split) <;> simp (disch := first | assumption | (simp only [ne_eq] at *; simp [*])) [tq_u, tq_cp, hc0, hc1, fr_tb1, fr_tb2, fr_X8_touchBlock, fr_X8_touchAll, fr_X8_changeCorner, fr_X8_changePath, fr_cb1, fr_cb2, fr_X8_changeBlock, fr_wipe1, fr_X1_wipe, fr_sm1, fr_sm2, fr_X8_startMap, fr_X6_place, fr_mt1, fr_mt2, fr_X6_moveTo, fr_ch2, fr_X10_choose, fr_X1_take, fr_fgt1, fr_X5_forget, fr_X5_meet, fr_gat1, fr_X5_gather, fr_dl1, fr_dl2, fr_X7_drawLayers, fr_dp1, fr_X7_drawPieces, fr_dr1, fr_X7_draw, fr_X9_add, fr_ac1, fr_X9_addCell, fr_tk0, fr_tk1, fr_tk2, fr_X9_take, fr_append111, fr_append113, fr_X4_acceptRowEnd, fr_X4_acceptNumber, fr_al1, fr_X4_acceptLetter, fr_X4_accept, fr_X11_touchAllIf, fr_X11_staleAt, fr_st1, fr_st2, fr_X11_writeItem, fr_wr1, fr_X11_writeRow, fr_wr2, fr_X11_write, fr_rg1, fr_rg2, fr_X11_regions]
def r_X11_flood (I : tq_I) (x y t : Int32) (w h o c L : Nat) : Int32 := (if (tq_b (tq_corner I x y)) = 0 then (-2) else (if (tq_b ((nI 0).toInt ≤ t.toInt ∧ t.toInt ≤ (nI 5).toInt)) = 0 then (-2) else (tq_it (f_fl1 (tq_N x) (tq_N y) t (tq_N ((I_X5_gather (I_X5_forget (tq_rec I o c)) (tq_N x) (tq_N y)) 99 2)) w h (tq_o1 o c) (tq_c1n c) L) (tq_N ((I_X5_gather (I_X5_forget (tq_rec I o c)) (tq_N x) (tq_N y)) 99 2)) 0 ((nI 0), (I_X5_gather (I_X5_forget (tq_rec I o c)) (tq_N x) (tq_N y)))).1))
def I_X11_flood (I : tq_I) (x y t : Int32) (w h o c L : Nat) : tq_I := (if (tq_b (tq_corner I x y)) = 0 then I else (if (tq_b ((nI 0).toInt ≤ t.toInt ∧ t.toInt ≤ (nI 5).toInt)) = 0 then I else (tq_it (f_fl1 (tq_N x) (tq_N y) t (tq_N ((I_X5_gather (I_X5_forget (tq_rec I o c)) (tq_N x) (tq_N y)) 99 2)) w h (tq_o1 o c) (tq_c1n c) L) (tq_N ((I_X5_gather (I_X5_forget (tq_rec I o c)) (tq_N x) (tq_N y)) 99 2)) 0 ((nI 0), (I_X5_gather (I_X5_forget (tq_rec I o c)) (tq_N x) (tq_N y)))).2))
set_option maxRecDepth 20000 in
theorem c_X11_flood (g : tq_G) (rest : List tq_S) (I : tq_I) (J : Int64) (x y t : Int32) (w h o c L : Nat) (k : tq_ok I w h o c L)  : CT g mX11_flood 6 0 0 [.ref 0, .int x, .int y, .int t] (tq_SC ++ rest) tq_RR I J (tq_ret (tq_SC ++ rest) tq_RR (some (.int (r_X11_flood I x y t w h o c L))) (I_X11_flood I x y t w h o c L) J) := by
  refine CT.ret kX11_flood (Nat.le_of_ble_eq_true rfl) (fun x0 C hR hZ => ?_)
  refine EV_en (lv' := [some (.ref 0), some (.int x), some (.int y), some (.int t), none, none]) 2 rfl ?_
  refine EV_blk (own := 11) C rfl [(.aload_n 0, 0, 0, 0, 0), (.getfield 12, 11, 0, 368, 0), (.getfield 77, 8, 0, 193, 0), (.iload_n 1, 0, 0, 0, 0), (.iload_n 2, 0, 0, 0, 0)] (pc' := 9) (by decide +kernel) (lv' := [some (.ref 0), some (.int x), some (.int y), some (.int t), none, none]) (st' := [.int y, .int x, .ref 2]) (I' := I) (J' := J) rfl ?_
  refine EV_cV (own := 11) (idx := 94) (μ' := mX3_isCorner) (b := 2) (cb := 3) (av := [.int x, .int y]) (rest := []) C hR rfl (Or.inl ⟨450, by decide⟩) kX3_isCorner sX3_isCorner (c_X3_isCorner g rest I J x y ) rfl rfl (by decide +kernel) rfl (by decide) (Nat.le_of_ble_eq_true rfl) rfl ⟨Nat.zero_le _, Nat.zero_le _⟩ ?_
  refine EV_if_eq (off := 10) (tgt := 22) C (by decide +kernel) (by decide) (fun h1 => ?_) (fun h1 => ?_)
  · skip
    refine EV_blk (own := 11) C rfl [(.bipush (-2), 0, 0, 0, (-2))] (pc' := 24) (by decide +kernel) (lv' := [some (.ref 0), some (.int x), some (.int y), some (.int t), none, none]) (st' := [.int (-2)]) (I' := I) (J' := J) rfl ?_
    exact EV_iret C hZ rfl (by decide +kernel) (Nat.le_refl _) (Nat.le_refl _) ⟨tq_some (by simp only [r_X11_flood, if_pos h1]), rfl, rfl, by simp only [I_X11_flood, if_pos h1], rfl⟩
  · skip
    have h0 := tq_b10 h1
    have hxy := k.corner h0
    refine EV_blk (own := 11) C rfl [(.iload_n 3, 0, 0, 0, 0)] (pc' := 16) (by decide +kernel) (lv' := [some (.ref 0), some (.int x), some (.int y), some (.int t), none, none]) (st' := [.int t]) (I' := I) (J' := J) rfl ?_
    refine EV_cS (own := 11) (idx := 65) (μ' := mX11_isTerrain) (av := [.int t]) (rest := []) C hR rfl (Or.inl ⟨397, by decide⟩) kX11_isTerrain sX11_isTerrain (c_X11_isTerrain g rest I J t ) (by decide +kernel) rfl (by decide) (Nat.le_of_ble_eq_true rfl) rfl ⟨Nat.zero_le _, Nat.zero_le _⟩ ?_
    refine EV_if_ne (off := 6) (tgt := 25) C (by decide +kernel) (by decide) (fun h2 => ?_) (fun h2 => ?_)
    · skip
      have ht := tq_t05 (tq_b10 h2)
      refine EV_lve (lv' := [some (.ref 0), some (.int (nI (tq_N x))), some (.int (nI (tq_N y))), some (.int t), none, none]) (by rw [← tq_nIN h0.1, ← tq_nIN h0.2.2.1]) ?_
      refine EV_blk (own := 11) C rfl [(.aload_n 0, 0, 0, 0, 0), (.getfield 19, 11, 1, 369, 0), (.aload_n 0, 0, 0, 0, 0), (.getfield 12, 11, 0, 368, 0)] (pc' := 33) (by decide +kernel) (lv' := [some (.ref 0), some (.int (nI (tq_N x))), some (.int (nI (tq_N y))), some (.int t), none, none]) (st' := [.ref 1, .ref 17]) (I' := I) (J' := J) rfl ?_
      refine EV_cV (own := 11) (idx := 73) (μ' := mX2_record) (b := 17) (cb := 2) (av := [.ref 1]) (rest := []) C hR rfl (Or.inl ⟨403, by decide⟩) kX2_record sX2_record (c_X2_record g rest I J o c k.ho k.hc k.o5 k.c5 k.bd) rfl rfl (by decide +kernel) rfl (by decide) (Nat.le_of_ble_eq_true rfl) rfl ⟨Nat.zero_le _, Nat.zero_le _⟩ ?_
      refine EV_blk (own := 11) C rfl [(.aload_n 0, 0, 0, 0, 0), (.getfield 26, 11, 2, 370, 0)] (pc' := 40) (by decide +kernel) (lv' := [some (.ref 0), some (.int (nI (tq_N x))), some (.int (nI (tq_N y))), some (.int t), none, none]) (st' := [.ref 99]) (I' := (tq_rec I o c)) (J' := J) rfl ?_
      refine EV_cV (own := 11) (idx := 118) (μ' := mX5_forget) (b := 99) (cb := 5) (av := []) (rest := []) C hR rfl (Or.inl ⟨490, by decide⟩) kX5_forget sX5_forget (c_X5_forget g rest (tq_rec I o c) J  ) rfl rfl (by decide +kernel) rfl (by decide) (Nat.le_of_ble_eq_true rfl) rfl ⟨Nat.zero_le _, Nat.zero_le _⟩ ?_
      refine EV_blk (own := 11) C rfl [(.aload_n 0, 0, 0, 0, 0), (.getfield 26, 11, 2, 370, 0), (.aload_n 0, 0, 0, 0, 0), (.getfield 12, 11, 0, 368, 0), (.getfield 77, 8, 0, 193, 0), (.iload_n 1, 0, 0, 0, 0), (.iload_n 2, 0, 0, 0, 0)] (pc' := 56) (by decide +kernel) (lv' := [some (.ref 0), some (.int (nI (tq_N x))), some (.int (nI (tq_N y))), some (.int t), none, none]) (st' := [.int (nI (tq_N y)), .int (nI (tq_N x)), .ref 2, .ref 99]) (I' := (I_X5_forget (tq_rec I o c))) (J' := J) rfl ?_
      refine EV_cV (own := 11) (idx := 121) (μ' := mX5_gather) (b := 99) (cb := 5) (av := [.ref 2, .int (nI (tq_N x)), .int (nI (tq_N y))]) (rest := []) C hR rfl (Or.inl ⟨494, by decide⟩) kX5_gather sX5_gather (c_X5_gather g rest (I_X5_forget (tq_rec I o c)) J (tq_N x) (tq_N y) (by omega) (by omega) k.rec.forget.rg) rfl rfl (by decide +kernel) rfl (by decide) (Nat.le_of_ble_eq_true rfl) rfl ⟨Nat.zero_le _, Nat.zero_le _⟩ ?_
      refine EV_blk (own := 11) C rfl [(.iconst 0, 0, 0, 0, (nI 0)), (.istore 4, 0, 0, 0, 0), (.iconst 0, 0, 0, 0, (nI 0)), (.istore 5, 0, 0, 0, 0)] (pc' := 65) (by decide +kernel) (lv' := [some (.ref 0), some (.int (nI (tq_N x))), some (.int (nI (tq_N y))), some (.int t), some (.int (nI 0)), some (.int (nI 0))]) (st' := []) (I' := (I_X5_gather (I_X5_forget (tq_rec I o c)) (tq_N x) (tq_N y))) (J' := J) rfl ?_
      have kg : tq_ok (I_X5_gather (I_X5_forget (tq_rec I o c)) (tq_N x) (tq_N y)) w h (tq_o1 o c) (tq_c1n c) L := (k.rec.forget).gather _ _
      have hqq : tq_N ((I_X5_gather (I_X5_forget (tq_rec I o c)) (tq_N x) (tq_N y)) 99 2) ≤ 121 := tq_N121 kg.rct
      refine lp_fl1 C hR J (tq_N x) (tq_N y) t (tq_N ((I_X5_gather (I_X5_forget (tq_rec I o c)) (tq_N x) (tq_N y)) 99 2)) w h (tq_o1 o c) (tq_c1n c) L ⟨ht.1, ht.2.1⟩ hqq (tq_N ((I_X5_gather (I_X5_forget (tq_rec I o c)) (tq_N x) (tq_N y)) 99 2)) 0 ((nI 0), (I_X5_gather (I_X5_forget (tq_rec I o c)) (tq_N x) (tq_N y))) (by omega) ⟨kg, tq_nIN kg.rct.1⟩ ?_
      refine EV_blk (own := 11) C rfl [(.iload 4, 0, 0, 0, 0)] (pc' := 116) (by decide +kernel) (lv' := [some (.ref 0), some (.int (nI (tq_N x))), some (.int (nI (tq_N y))), some (.int t), some (.int ((tq_it (f_fl1 (tq_N x) (tq_N y) t (tq_N ((I_X5_gather (I_X5_forget (tq_rec I o c)) (tq_N x) (tq_N y)) 99 2)) w h (tq_o1 o c) (tq_c1n c) L) (tq_N ((I_X5_gather (I_X5_forget (tq_rec I o c)) (tq_N x) (tq_N y)) 99 2)) 0 ((nI 0), (I_X5_gather (I_X5_forget (tq_rec I o c)) (tq_N x) (tq_N y)))).1)), some (.int (nI ((0 + (tq_N ((I_X5_gather (I_X5_forget (tq_rec I o c)) (tq_N x) (tq_N y)) 99 2))))))]) (st' := [.int ((tq_it (f_fl1 (tq_N x) (tq_N y) t (tq_N ((I_X5_gather (I_X5_forget (tq_rec I o c)) (tq_N x) (tq_N y)) 99 2)) w h (tq_o1 o c) (tq_c1n c) L) (tq_N ((I_X5_gather (I_X5_forget (tq_rec I o c)) (tq_N x) (tq_N y)) 99 2)) 0 ((nI 0), (I_X5_gather (I_X5_forget (tq_rec I o c)) (tq_N x) (tq_N y)))).1)]) (I' := (tq_it (f_fl1 (tq_N x) (tq_N y) t (tq_N ((I_X5_gather (I_X5_forget (tq_rec I o c)) (tq_N x) (tq_N y)) 99 2)) w h (tq_o1 o c) (tq_c1n c) L) (tq_N ((I_X5_gather (I_X5_forget (tq_rec I o c)) (tq_N x) (tq_N y)) 99 2)) 0 ((nI 0), (I_X5_gather (I_X5_forget (tq_rec I o c)) (tq_N x) (tq_N y)))).2) (J' := J) rfl ?_
      exact EV_iret C hZ rfl (by decide +kernel) (Nat.le_refl _) (Nat.le_refl _) ⟨tq_some (by simp only [r_X11_flood, if_neg h1, if_neg h2]), rfl, rfl, by simp only [I_X11_flood, if_neg h1, if_neg h2], rfl⟩
    · skip
      refine EV_blk (own := 11) C rfl [(.bipush (-2), 0, 0, 0, (-2))] (pc' := 24) (by decide +kernel) (lv' := [some (.ref 0), some (.int x), some (.int y), some (.int t), none, none]) (st' := [.int (-2)]) (I' := I) (J' := J) rfl ?_
      exact EV_iret C hZ rfl (by decide +kernel) (Nat.le_refl _) (Nat.le_refl _) ⟨tq_some (by simp only [r_X11_flood, if_neg h1, if_pos h2]), rfl, rfl, by simp only [I_X11_flood, if_neg h1, if_pos h2], rfl⟩
theorem tq_minI {a b : Nat} (ha : a < 2 ^ 31) (hb : b < 2 ^ 31) : (if nI b < nI a then nI b else nI a) = nI (min a b) := by
  by_cases h : b < a
  · rw [if_pos ((nI_ltI hb ha).mpr h), Nat.min_eq_right (by omega)]
  · rw [if_neg (fun q => h ((nI_ltI hb ha).mp q)), Nat.min_eq_left (by omega)]
theorem tq_maxI {a b : Nat} (ha : a < 2 ^ 31) (hb : b < 2 ^ 31) : (if nI a < nI b then nI b else nI a) = nI (max a b) := by
  by_cases h : a < b
  · rw [if_pos ((nI_ltI ha hb).mpr h), Nat.max_eq_right (by omega)]
  · rw [if_neg (fun q => h ((nI_ltI ha hb).mp q)), Nat.max_eq_left (by omega)]
def r_X11_fill (I : tq_I) (x y u v t : Int32) (w h o c L : Nat) : Int32 := (if (tq_b (tq_corner I x y)) = 0 then (-2) else (if (tq_b (tq_corner I u v)) = 0 then (-2) else (if (tq_b ((nI 0).toInt ≤ t.toInt ∧ t.toInt ≤ (nI 5).toInt)) = 0 then (-2) else (r_X8_changeBlock (tq_rec I o c) (min (tq_N x) (tq_N u)) (min (tq_N y) (tq_N v)) (max (tq_N x) (tq_N u)) (max (tq_N y) (tq_N v)) t))))
def I_X11_fill (I : tq_I) (x y u v t : Int32) (w h o c L : Nat) : tq_I := (if (tq_b (tq_corner I x y)) = 0 then I else (if (tq_b (tq_corner I u v)) = 0 then I else (if (tq_b ((nI 0).toInt ≤ t.toInt ∧ t.toInt ≤ (nI 5).toInt)) = 0 then I else (I_X8_changeBlock (tq_rec I o c) (min (tq_N x) (tq_N u)) (min (tq_N y) (tq_N v)) (max (tq_N x) (tq_N u)) (max (tq_N y) (tq_N v)) t))))
set_option maxRecDepth 20000 in
theorem c_X11_fill (g : tq_G) (rest : List tq_S) (I : tq_I) (J : Int64) (x y u v t : Int32) (w h o c L : Nat) (k : tq_ok I w h o c L)  : CT g mX11_fill 6 0 0 [.ref 0, .int x, .int y, .int u, .int v, .int t] (tq_SC ++ rest) tq_RR I J (tq_ret (tq_SC ++ rest) tq_RR (some (.int (r_X11_fill I x y u v t w h o c L))) (I_X11_fill I x y u v t w h o c L) J) := by
  refine CT.ret kX11_fill (Nat.le_of_ble_eq_true rfl) (fun x0 C hR hZ => ?_)
  refine EV_en (lv' := [some (.ref 0), some (.int x), some (.int y), some (.int u), some (.int v), some (.int t)]) 0 rfl ?_
  refine EV_blk (own := 11) C rfl [(.aload_n 0, 0, 0, 0, 0), (.getfield 12, 11, 0, 368, 0), (.getfield 77, 8, 0, 193, 0), (.iload_n 1, 0, 0, 0, 0), (.iload_n 2, 0, 0, 0, 0)] (pc' := 9) (by decide +kernel) (lv' := [some (.ref 0), some (.int x), some (.int y), some (.int u), some (.int v), some (.int t)]) (st' := [.int y, .int x, .ref 2]) (I' := I) (J' := J) rfl ?_
  refine EV_cV (own := 11) (idx := 94) (μ' := mX3_isCorner) (b := 2) (cb := 3) (av := [.int x, .int y]) (rest := []) C hR rfl (Or.inl ⟨450, by decide⟩) kX3_isCorner sX3_isCorner (c_X3_isCorner g rest I J x y ) rfl rfl (by decide +kernel) rfl (by decide) (Nat.le_of_ble_eq_true rfl) rfl ⟨Nat.zero_le _, Nat.zero_le _⟩ ?_
  refine EV_if_eq (off := 27) (tgt := 39) C (by decide +kernel) (by decide) (fun h1 => ?_) (fun h1 => ?_)
  · skip
    refine EV_blk (own := 11) C rfl [(.bipush (-2), 0, 0, 0, (-2))] (pc' := 41) (by decide +kernel) (lv' := [some (.ref 0), some (.int x), some (.int y), some (.int u), some (.int v), some (.int t)]) (st' := [.int (-2)]) (I' := I) (J' := J) rfl ?_
    exact EV_iret C hZ rfl (by decide +kernel) (Nat.le_refl _) (Nat.le_refl _) ⟨tq_some (by simp only [r_X11_fill, if_pos h1]), rfl, rfl, by simp only [I_X11_fill, if_pos h1], rfl⟩
  · skip
    have h0 := tq_b10 h1
    have hxy := k.corner h0
    refine EV_blk (own := 11) C rfl [(.aload_n 0, 0, 0, 0, 0), (.getfield 12, 11, 0, 368, 0), (.getfield 77, 8, 0, 193, 0), (.iload_n 3, 0, 0, 0, 0), (.iload 4, 0, 0, 0, 0)] (pc' := 25) (by decide +kernel) (lv' := [some (.ref 0), some (.int x), some (.int y), some (.int u), some (.int v), some (.int t)]) (st' := [.int v, .int u, .ref 2]) (I' := I) (J' := J) rfl ?_
    refine EV_cV (own := 11) (idx := 94) (μ' := mX3_isCorner) (b := 2) (cb := 3) (av := [.int u, .int v]) (rest := []) C hR rfl (Or.inl ⟨450, by decide⟩) kX3_isCorner sX3_isCorner (c_X3_isCorner g rest I J u v ) rfl rfl (by decide +kernel) rfl (by decide) (Nat.le_of_ble_eq_true rfl) rfl ⟨Nat.zero_le _, Nat.zero_le _⟩ ?_
    refine EV_if_eq (off := 11) (tgt := 39) C (by decide +kernel) (by decide) (fun h2 => ?_) (fun h2 => ?_)
    · skip
      refine EV_blk (own := 11) C rfl [(.bipush (-2), 0, 0, 0, (-2))] (pc' := 41) (by decide +kernel) (lv' := [some (.ref 0), some (.int x), some (.int y), some (.int u), some (.int v), some (.int t)]) (st' := [.int (-2)]) (I' := I) (J' := J) rfl ?_
      exact EV_iret C hZ rfl (by decide +kernel) (Nat.le_refl _) (Nat.le_refl _) ⟨tq_some (by simp only [r_X11_fill, if_neg h1, if_pos h2]), rfl, rfl, by simp only [I_X11_fill, if_neg h1, if_pos h2], rfl⟩
    · skip
      have h9 := tq_b10 h2
      have huv := k.corner h9
      refine EV_blk (own := 11) C rfl [(.iload 5, 0, 0, 0, 0)] (pc' := 33) (by decide +kernel) (lv' := [some (.ref 0), some (.int x), some (.int y), some (.int u), some (.int v), some (.int t)]) (st' := [.int t]) (I' := I) (J' := J) rfl ?_
      refine EV_cS (own := 11) (idx := 65) (μ' := mX11_isTerrain) (av := [.int t]) (rest := []) C hR rfl (Or.inl ⟨397, by decide⟩) kX11_isTerrain sX11_isTerrain (c_X11_isTerrain g rest I J t ) (by decide +kernel) rfl (by decide) (Nat.le_of_ble_eq_true rfl) rfl ⟨Nat.zero_le _, Nat.zero_le _⟩ ?_
      refine EV_if_ne (off := 6) (tgt := 42) C (by decide +kernel) (by decide) (fun h3 => ?_) (fun h3 => ?_)
      · skip
        have ht := tq_t05 (tq_b10 h3)
        refine EV_lve (lv' := [some (.ref 0), some (.int (nI (tq_N x))), some (.int (nI (tq_N y))), some (.int (nI (tq_N u))), some (.int (nI (tq_N v))), some (.int t)]) (by rw [← tq_nIN h0.1, ← tq_nIN h0.2.2.1, ← tq_nIN h9.1, ← tq_nIN h9.2.2.1]) ?_
        refine EV_blk (own := 11) C rfl [(.aload_n 0, 0, 0, 0, 0), (.getfield 19, 11, 1, 369, 0), (.aload_n 0, 0, 0, 0, 0), (.getfield 12, 11, 0, 368, 0)] (pc' := 50) (by decide +kernel) (lv' := [some (.ref 0), some (.int (nI (tq_N x))), some (.int (nI (tq_N y))), some (.int (nI (tq_N u))), some (.int (nI (tq_N v))), some (.int t)]) (st' := [.ref 1, .ref 17]) (I' := I) (J' := J) rfl ?_
        refine EV_cV (own := 11) (idx := 73) (μ' := mX2_record) (b := 17) (cb := 2) (av := [.ref 1]) (rest := []) C hR rfl (Or.inl ⟨403, by decide⟩) kX2_record sX2_record (c_X2_record g rest I J o c k.ho k.hc k.o5 k.c5 k.bd) rfl rfl (by decide +kernel) rfl (by decide) (Nat.le_of_ble_eq_true rfl) rfl ⟨Nat.zero_le _, Nat.zero_le _⟩ ?_
        refine EV_blk (own := 11) C rfl [(.aload_n 0, 0, 0, 0, 0), (.getfield 12, 11, 0, 368, 0), (.iload_n 1, 0, 0, 0, 0), (.iload_n 3, 0, 0, 0, 0)] (pc' := 59) (by decide +kernel) (lv' := [some (.ref 0), some (.int (nI (tq_N x))), some (.int (nI (tq_N y))), some (.int (nI (tq_N u))), some (.int (nI (tq_N v))), some (.int t)]) (st' := [.int (nI (tq_N u)), .int (nI (tq_N x)), .ref 1]) (I' := (tq_rec I o c)) (J' := J) rfl ?_
        refine EV_min (own := 11) (idx := 106) (pl := 475) C hR rfl (by decide) (by decide +kernel) (by decide) (Nat.le_of_ble_eq_true rfl) (Nat.zero_le _) (Nat.zero_le _) ?_
        refine EV_blk (own := 11) C rfl [(.iload_n 2, 0, 0, 0, 0), (.iload 4, 0, 0, 0, 0)] (pc' := 65) (by decide +kernel) (lv' := [some (.ref 0), some (.int (nI (tq_N x))), some (.int (nI (tq_N y))), some (.int (nI (tq_N u))), some (.int (nI (tq_N v))), some (.int t)]) (st' := [.int (nI (tq_N v)), .int (nI (tq_N y)), .int (if (nI (tq_N u)) < (nI (tq_N x)) then (nI (tq_N u)) else (nI (tq_N x))), .ref 1]) (I' := (tq_rec I o c)) (J' := J) rfl ?_
        refine EV_min (own := 11) (idx := 106) (pl := 475) C hR rfl (by decide) (by decide +kernel) (by decide) (Nat.le_of_ble_eq_true rfl) (Nat.zero_le _) (Nat.zero_le _) ?_
        refine EV_blk (own := 11) C rfl [(.iload_n 1, 0, 0, 0, 0), (.iload_n 3, 0, 0, 0, 0)] (pc' := 70) (by decide +kernel) (lv' := [some (.ref 0), some (.int (nI (tq_N x))), some (.int (nI (tq_N y))), some (.int (nI (tq_N u))), some (.int (nI (tq_N v))), some (.int t)]) (st' := [.int (nI (tq_N u)), .int (nI (tq_N x)), .int (if (nI (tq_N v)) < (nI (tq_N y)) then (nI (tq_N v)) else (nI (tq_N y))), .int (if (nI (tq_N u)) < (nI (tq_N x)) then (nI (tq_N u)) else (nI (tq_N x))), .ref 1]) (I' := (tq_rec I o c)) (J' := J) rfl ?_
        refine EV_max (own := 11) (idx := 111) (pl := 478) C hR rfl (by decide) (by decide +kernel) (by decide) (Nat.le_of_ble_eq_true rfl) (Nat.zero_le _) (Nat.zero_le _) ?_
        refine EV_blk (own := 11) C rfl [(.iload_n 2, 0, 0, 0, 0), (.iload 4, 0, 0, 0, 0)] (pc' := 76) (by decide +kernel) (lv' := [some (.ref 0), some (.int (nI (tq_N x))), some (.int (nI (tq_N y))), some (.int (nI (tq_N u))), some (.int (nI (tq_N v))), some (.int t)]) (st' := [.int (nI (tq_N v)), .int (nI (tq_N y)), .int (if (nI (tq_N x)) < (nI (tq_N u)) then (nI (tq_N u)) else (nI (tq_N x))), .int (if (nI (tq_N v)) < (nI (tq_N y)) then (nI (tq_N v)) else (nI (tq_N y))), .int (if (nI (tq_N u)) < (nI (tq_N x)) then (nI (tq_N u)) else (nI (tq_N x))), .ref 1]) (I' := (tq_rec I o c)) (J' := J) rfl ?_
        refine EV_max (own := 11) (idx := 111) (pl := 478) C hR rfl (by decide) (by decide +kernel) (by decide) (Nat.le_of_ble_eq_true rfl) (Nat.zero_le _) (Nat.zero_le _) ?_
        refine EV_blk (own := 11) C rfl [(.iload 5, 0, 0, 0, 0)] (pc' := 81) (by decide +kernel) (lv' := [some (.ref 0), some (.int (nI (tq_N x))), some (.int (nI (tq_N y))), some (.int (nI (tq_N u))), some (.int (nI (tq_N v))), some (.int t)]) (st' := [.int t, .int (if (nI (tq_N y)) < (nI (tq_N v)) then (nI (tq_N v)) else (nI (tq_N y))), .int (if (nI (tq_N x)) < (nI (tq_N u)) then (nI (tq_N u)) else (nI (tq_N x))), .int (if (nI (tq_N v)) < (nI (tq_N y)) then (nI (tq_N v)) else (nI (tq_N y))), .int (if (nI (tq_N u)) < (nI (tq_N x)) then (nI (tq_N u)) else (nI (tq_N x))), .ref 1]) (I' := (tq_rec I o c)) (J' := J) rfl ?_
        have hxa := hxy.2.2.1
        have hxb := hxy.2.2.2
        have hua := huv.2.2.1
        have hub := huv.2.2.2
        refine EV_ste (st' := [.int t, .int (nI (max (tq_N y) (tq_N v))), .int (nI (max (tq_N x) (tq_N u))), .int (nI (min (tq_N y) (tq_N v))), .int (nI (min (tq_N x) (tq_N u))), .ref 1]) (by rw [tq_minI (by omega) (by omega), tq_minI (by omega) (by omega), tq_maxI (by omega) (by omega), tq_maxI (by omega) (by omega)]) ?_
        refine EV_cV (own := 11) (idx := 114) (μ' := mX8_changeBlock) (b := 1) (cb := 8) (av := [.int (nI (min (tq_N x) (tq_N u))), .int (nI (min (tq_N y) (tq_N v))), .int (nI (max (tq_N x) (tq_N u))), .int (nI (max (tq_N y) (tq_N v))), .int t]) (rest := []) C hR rfl (Or.inl ⟨481, by decide⟩) kX8_changeBlock sX8_changeBlock (c_X8_changeBlock g rest (tq_rec I o c) J (min (tq_N x) (tq_N u)) (min (tq_N y) (tq_N v)) (max (tq_N x) (tq_N u)) (max (tq_N y) (tq_N v)) t (by omega) (by omega) (by omega) (by omega) k.rec.wh) rfl rfl (by decide +kernel) rfl (by decide) (Nat.le_of_ble_eq_true rfl) rfl ⟨Nat.zero_le _, Nat.zero_le _⟩ ?_
        exact EV_iret C hZ rfl (by decide +kernel) (Nat.le_refl _) (Nat.le_refl _) ⟨tq_some (by simp only [r_X11_fill, if_neg h1, if_neg h2, if_neg h3]), rfl, rfl, by simp only [I_X11_fill, if_neg h1, if_neg h2, if_neg h3], rfl⟩
      · skip
        refine EV_blk (own := 11) C rfl [(.bipush (-2), 0, 0, 0, (-2))] (pc' := 41) (by decide +kernel) (lv' := [some (.ref 0), some (.int x), some (.int y), some (.int u), some (.int v), some (.int t)]) (st' := [.int (-2)]) (I' := I) (J' := J) rfl ?_
        exact EV_iret C hZ rfl (by decide +kernel) (Nat.le_refl _) (Nat.le_refl _) ⟨tq_some (by simp only [r_X11_fill, if_neg h1, if_neg h2, if_pos h3]), rfl, rfl, by simp only [I_X11_fill, if_neg h1, if_neg h2, if_pos h3], rfl⟩
theorem tq_absI : ∀ i, i < 11 → ∀ x, x < 11 → (if 0 ≤ (nI i - nI x) then (nI i - nI x) else 0 - (nI i - nI x)) = nI ((i - x) + (x - i)) := by decide +kernel
theorem tq_gts : ∀ a, a < 6 → ∀ b, b < 6 → ∀ f, f < 11 → (if (nI b + nI f) < (if nI a < (nI b - nI f) then (nI b - nI f) else nI a) then (nI b + nI f) else (if nI a < (nI b - nI f) then (nI b - nI f) else nI a)) = nI (min (max a (b - f)) (b + f)) := by decide +kernel
theorem tq_gets {i x r y : Nat} {had pk : Int32} (hi : i ≤ 10) (hx : x ≤ 10) (hr : r ≤ 10) (hy : y ≤ 10) (h1 : 0 ≤ had.toInt ∧ had.toInt ≤ 5) (h2 : 0 ≤ pk.toInt ∧ pk.toInt ≤ 5) : (if (pk + (if (if 0 ≤ ((nI i) - (nI x)) then ((nI i) - (nI x)) else 0 - ((nI i) - (nI x))) < (if 0 ≤ ((nI r) - (nI y)) then ((nI r) - (nI y)) else 0 - ((nI r) - (nI y))) then (if 0 ≤ ((nI r) - (nI y)) then ((nI r) - (nI y)) else 0 - ((nI r) - (nI y))) else (if 0 ≤ ((nI i) - (nI x)) then ((nI i) - (nI x)) else 0 - ((nI i) - (nI x))))) < (if had < (pk - (if (if 0 ≤ ((nI i) - (nI x)) then ((nI i) - (nI x)) else 0 - ((nI i) - (nI x))) < (if 0 ≤ ((nI r) - (nI y)) then ((nI r) - (nI y)) else 0 - ((nI r) - (nI y))) then (if 0 ≤ ((nI r) - (nI y)) then ((nI r) - (nI y)) else 0 - ((nI r) - (nI y))) else (if 0 ≤ ((nI i) - (nI x)) then ((nI i) - (nI x)) else 0 - ((nI i) - (nI x))))) then (pk - (if (if 0 ≤ ((nI i) - (nI x)) then ((nI i) - (nI x)) else 0 - ((nI i) - (nI x))) < (if 0 ≤ ((nI r) - (nI y)) then ((nI r) - (nI y)) else 0 - ((nI r) - (nI y))) then (if 0 ≤ ((nI r) - (nI y)) then ((nI r) - (nI y)) else 0 - ((nI r) - (nI y))) else (if 0 ≤ ((nI i) - (nI x)) then ((nI i) - (nI x)) else 0 - ((nI i) - (nI x))))) else had) then (pk + (if (if 0 ≤ ((nI i) - (nI x)) then ((nI i) - (nI x)) else 0 - ((nI i) - (nI x))) < (if 0 ≤ ((nI r) - (nI y)) then ((nI r) - (nI y)) else 0 - ((nI r) - (nI y))) then (if 0 ≤ ((nI r) - (nI y)) then ((nI r) - (nI y)) else 0 - ((nI r) - (nI y))) else (if 0 ≤ ((nI i) - (nI x)) then ((nI i) - (nI x)) else 0 - ((nI i) - (nI x))))) else (if had < (pk - (if (if 0 ≤ ((nI i) - (nI x)) then ((nI i) - (nI x)) else 0 - ((nI i) - (nI x))) < (if 0 ≤ ((nI r) - (nI y)) then ((nI r) - (nI y)) else 0 - ((nI r) - (nI y))) then (if 0 ≤ ((nI r) - (nI y)) then ((nI r) - (nI y)) else 0 - ((nI r) - (nI y))) else (if 0 ≤ ((nI i) - (nI x)) then ((nI i) - (nI x)) else 0 - ((nI i) - (nI x))))) then (pk - (if (if 0 ≤ ((nI i) - (nI x)) then ((nI i) - (nI x)) else 0 - ((nI i) - (nI x))) < (if 0 ≤ ((nI r) - (nI y)) then ((nI r) - (nI y)) else 0 - ((nI r) - (nI y))) then (if 0 ≤ ((nI r) - (nI y)) then ((nI r) - (nI y)) else 0 - ((nI r) - (nI y))) else (if 0 ≤ ((nI i) - (nI x)) then ((nI i) - (nI x)) else 0 - ((nI i) - (nI x))))) else had)) = nI (min (max (tq_N had) (tq_N pk - (max ((i - x) + (x - i)) ((r - y) + (y - r))))) (tq_N pk + (max ((i - x) + (x - i)) ((r - y) + (y - r))))) := by
  have e1 := tq_nIN h1.1
  have e2 := tq_nIN h2.1
  have n1 := tq_N5 h1
  have n2 := tq_N5 h2
  rw [tq_absI i (by omega) x (by omega), tq_absI r (by omega) y (by omega), tq_maxI (by omega) (by omega)]
  generalize tq_N had = a at e1 n1
  generalize tq_N pk = b at e2 n2
  subst e1
  subst e2
  exact tq_gts a (by omega) b (by omega) _ (by omega)
def f_ra1 (x y t : Nat) (pk : Int32) (r : Nat) (w h o c L : Nat) (i : Nat) (a : Int32 × tq_I) : Int32 × tq_I := ((a.1 + (r_X8_changeCorner a.2 i r (a.2 7 (min (max (tq_N (a.2 6 (tq_N (a.2 3 (r * 11 + i))))) (tq_N pk - (max ((i - x) + (x - i)) ((r - y) + (y - r))))) (tq_N pk + (max ((i - x) + (x - i)) ((r - y) + (y - r)))))))), (I_X8_changeCorner a.2 i r (a.2 7 (min (max (tq_N (a.2 6 (tq_N (a.2 3 (r * 11 + i))))) (tq_N pk - (max ((i - x) + (x - i)) ((r - y) + (y - r))))) (tq_N pk + (max ((i - x) + (x - i)) ((r - y) + (y - r))))))))
set_option maxRecDepth 20000 in
theorem lp_ra1 {g : tq_G} {rest : List tq_S} {x0 : tq_X} (C : tq_C g mX11_raise x0) (hR : tq_ht x0 6 0 0) (J : Int64) (x y t : Nat) (pk : Int32) (r : Nat) (w h o c L : Nat) (hx : x ≤ 10) (hy : y ≤ 10) (hpk : 0 ≤ pk.toInt ∧ pk.toInt ≤ 5) (hw10 : w ≤ 10) (hr : r ≤ h) (hh10 : h ≤ 10) : ∀ (n i : Nat) (a : Int32 × tq_I), i + n = w + 1 → tq_ok a.2 w h o c L → EV g mX11_raise x0 0 0 187 [some (.ref 0), some (.int (nI x)), some (.int (nI y)), some (.int (nI t)), some (.int pk), some (.int ((tq_it (f_ra1 x y t pk r w h o c L) n i a).1)), some (.int (nI r)), some (.int (nI (i + n))), none, none, none] [] (tq_SC ++ rest) tq_RR ((tq_it (f_ra1 x y t pk r w h o c L) n i a).2) J → EV g mX11_raise x0 0 0 73 [some (.ref 0), some (.int (nI x)), some (.int (nI y)), some (.int (nI t)), some (.int pk), some (.int a.1), some (.int (nI r)), some (.int (nI i)), none, none, none] [] (tq_SC ++ rest) tq_RR a.2 J := by
  intro n
  induction n with
  | zero =>
    intro i a hi hI kk
    rw [Nat.add_zero] at kk
    refine EV_blk (own := 11) C rfl [(.iload 7, 0, 0, 0, 0), (.aload_n 0, 0, 0, 0, 0), (.getfield 12, 11, 0, 368, 0), (.getfield 77, 8, 0, 193, 0), (.getfield 81, 3, 0, 98, 0)] (pc' := 85) (by decide +kernel) (lv' := [some (.ref 0), some (.int (nI x)), some (.int (nI y)), some (.int (nI t)), some (.int pk), some (.int a.1), some (.int (nI r)), some (.int (nI i)), none, none, none]) (st' := [.int (a.2 2 0), .int (nI i)]) (I' := a.2) (J' := J) rfl ?_
    refine EV_icmp_gt (off := 102) (tgt := 187) C (by decide +kernel) (by decide) (fun h1 => ?_) (fun h1 => ?_)
    · skip
      exact kk
    · skip
      exact absurd h1 (by simp (disch := omega) only [Int32.lt_iff_toInt_lt, Int32.le_iff_toInt_le, Int32.toInt_zero, nI_toInt, tq_m1, hI.hw]; omega)
  | succ n ih =>
    intro i a hi hI kk
    rw [show i + (n + 1) = (i + 1) + n by omega] at kk
    refine EV_blk (own := 11) C rfl [(.iload 7, 0, 0, 0, 0), (.aload_n 0, 0, 0, 0, 0), (.getfield 12, 11, 0, 368, 0), (.getfield 77, 8, 0, 193, 0), (.getfield 81, 3, 0, 98, 0)] (pc' := 85) (by decide +kernel) (lv' := [some (.ref 0), some (.int (nI x)), some (.int (nI y)), some (.int (nI t)), some (.int pk), some (.int a.1), some (.int (nI r)), some (.int (nI i)), none, none, none]) (st' := [.int (a.2 2 0), .int (nI i)]) (I' := a.2) (J' := J) rfl ?_
    refine EV_icmp_gt (off := 102) (tgt := 187) C (by decide +kernel) (by decide) (fun h1 => ?_) (fun h1 => ?_)
    · skip
      exact absurd h1 (by simp (disch := omega) only [Int32.lt_iff_toInt_lt, Int32.le_iff_toInt_le, Int32.toInt_zero, nI_toInt, tq_m1, hI.hw]; omega)
    · skip
      refine EV_blk (own := 11) C rfl [(.iload 7, 0, 0, 0, 0), (.iload_n 1, 0, 0, 0, 0), (.isub, 0, 0, 0, 0)] (pc' := 92) (by decide +kernel) (lv' := [some (.ref 0), some (.int (nI x)), some (.int (nI y)), some (.int (nI t)), some (.int pk), some (.int a.1), some (.int (nI r)), some (.int (nI i)), none, none, none]) (st' := [.int ((nI i) - (nI x))]) (I' := a.2) (J' := J) rfl ?_
      refine EV_abs (own := 11) (idx := 144) (pl := 527) C hR rfl (by decide) (by decide +kernel) (by decide) (Nat.le_of_ble_eq_true rfl) (Nat.zero_le _) (Nat.zero_le _) ?_
      refine EV_blk (own := 11) C rfl [(.iload 6, 0, 0, 0, 0), (.iload_n 2, 0, 0, 0, 0), (.isub, 0, 0, 0, 0)] (pc' := 99) (by decide +kernel) (lv' := [some (.ref 0), some (.int (nI x)), some (.int (nI y)), some (.int (nI t)), some (.int pk), some (.int a.1), some (.int (nI r)), some (.int (nI i)), none, none, none]) (st' := [.int ((nI r) - (nI y)), .int (if 0 ≤ ((nI i) - (nI x)) then ((nI i) - (nI x)) else 0 - ((nI i) - (nI x)))]) (I' := a.2) (J' := J) rfl ?_
      refine EV_abs (own := 11) (idx := 144) (pl := 527) C hR rfl (by decide) (by decide +kernel) (by decide) (Nat.le_of_ble_eq_true rfl) (Nat.zero_le _) (Nat.zero_le _) ?_
      refine EV_max (own := 11) (idx := 111) (pl := 478) C hR rfl (by decide) (by decide +kernel) (by decide) (Nat.le_of_ble_eq_true rfl) (Nat.zero_le _) (Nat.zero_le _) ?_
      refine EV_blk (own := 11) C rfl [(.istore 8, 0, 0, 0, 0), (.aload_n 0, 0, 0, 0, 0), (.getfield 12, 11, 0, 368, 0), (.getfield 135, 8, 1, 196, 0), (.aload_n 0, 0, 0, 0, 0), (.getfield 12, 11, 0, 368, 0), (.getfield 77, 8, 0, 193, 0), (.iload 7, 0, 0, 0, 0), (.iload 6, 0, 0, 0, 0)] (pc' := 125) (by decide +kernel) (lv' := [some (.ref 0), some (.int (nI x)), some (.int (nI y)), some (.int (nI t)), some (.int pk), some (.int a.1), some (.int (nI r)), some (.int (nI i)), some (.int (if (if 0 ≤ ((nI i) - (nI x)) then ((nI i) - (nI x)) else 0 - ((nI i) - (nI x))) < (if 0 ≤ ((nI r) - (nI y)) then ((nI r) - (nI y)) else 0 - ((nI r) - (nI y))) then (if 0 ≤ ((nI r) - (nI y)) then ((nI r) - (nI y)) else 0 - ((nI r) - (nI y))) else (if 0 ≤ ((nI i) - (nI x)) then ((nI i) - (nI x)) else 0 - ((nI i) - (nI x))))), none, none]) (st' := [.int (nI r), .int (nI i), .ref 2, .ref 5]) (I' := a.2) (J' := J) rfl ?_
      refine EV_cV (own := 11) (idx := 98) (μ' := mX3_terrainAt) (b := 2) (cb := 3) (av := [.int (nI i), .int (nI r)]) (rest := [.ref 5]) C hR rfl (Or.inl ⟨454, by decide⟩) kX3_terrainAt sX3_terrainAt (c_X3_terrainAt g rest a.2 J i r (by omega) (by omega)) rfl rfl (by decide +kernel) rfl (by decide) (Nat.le_of_ble_eq_true rfl) rfl ⟨Nat.zero_le _, Nat.zero_le _⟩ ?_
      refine EV_cV (own := 11) (idx := 139) (μ' := mX6_rankOf) (b := 5) (cb := 6) (av := [.int (a.2 3 (r * 11 + i))]) (rest := []) C hR rfl (Or.inl ⟨523, by decide⟩) kX6_rankOf sX6_rankOf (cI_X6_rankOf g rest a.2 J (a.2 3 (r * 11 + i)) (hI.ter i r (by omega) (by omega)).1 (hI.ter i r (by omega) (by omega)).2) rfl rfl (by decide +kernel) rfl (by decide) (Nat.le_of_ble_eq_true rfl) rfl ⟨Nat.zero_le _, Nat.zero_le _⟩ ?_
      refine EV_blk (own := 11) C rfl [(.istore 9, 0, 0, 0, 0), (.iload 9, 0, 0, 0, 0), (.iload 4, 0, 0, 0, 0), (.iload 8, 0, 0, 0, 0), (.isub, 0, 0, 0, 0)] (pc' := 140) (by decide +kernel) (lv' := [some (.ref 0), some (.int (nI x)), some (.int (nI y)), some (.int (nI t)), some (.int pk), some (.int a.1), some (.int (nI r)), some (.int (nI i)), some (.int (if (if 0 ≤ ((nI i) - (nI x)) then ((nI i) - (nI x)) else 0 - ((nI i) - (nI x))) < (if 0 ≤ ((nI r) - (nI y)) then ((nI r) - (nI y)) else 0 - ((nI r) - (nI y))) then (if 0 ≤ ((nI r) - (nI y)) then ((nI r) - (nI y)) else 0 - ((nI r) - (nI y))) else (if 0 ≤ ((nI i) - (nI x)) then ((nI i) - (nI x)) else 0 - ((nI i) - (nI x))))), some (.int (a.2 6 (tq_N (a.2 3 (r * 11 + i))))), none]) (st' := [.int (pk - (if (if 0 ≤ ((nI i) - (nI x)) then ((nI i) - (nI x)) else 0 - ((nI i) - (nI x))) < (if 0 ≤ ((nI r) - (nI y)) then ((nI r) - (nI y)) else 0 - ((nI r) - (nI y))) then (if 0 ≤ ((nI r) - (nI y)) then ((nI r) - (nI y)) else 0 - ((nI r) - (nI y))) else (if 0 ≤ ((nI i) - (nI x)) then ((nI i) - (nI x)) else 0 - ((nI i) - (nI x))))), .int (a.2 6 (tq_N (a.2 3 (r * 11 + i))))]) (I' := a.2) (J' := J) rfl ?_
      refine EV_max (own := 11) (idx := 111) (pl := 478) C hR rfl (by decide) (by decide +kernel) (by decide) (Nat.le_of_ble_eq_true rfl) (Nat.zero_le _) (Nat.zero_le _) ?_
      refine EV_blk (own := 11) C rfl [(.iload 4, 0, 0, 0, 0), (.iload 8, 0, 0, 0, 0), (.iadd, 0, 0, 0, 0)] (pc' := 148) (by decide +kernel) (lv' := [some (.ref 0), some (.int (nI x)), some (.int (nI y)), some (.int (nI t)), some (.int pk), some (.int a.1), some (.int (nI r)), some (.int (nI i)), some (.int (if (if 0 ≤ ((nI i) - (nI x)) then ((nI i) - (nI x)) else 0 - ((nI i) - (nI x))) < (if 0 ≤ ((nI r) - (nI y)) then ((nI r) - (nI y)) else 0 - ((nI r) - (nI y))) then (if 0 ≤ ((nI r) - (nI y)) then ((nI r) - (nI y)) else 0 - ((nI r) - (nI y))) else (if 0 ≤ ((nI i) - (nI x)) then ((nI i) - (nI x)) else 0 - ((nI i) - (nI x))))), some (.int (a.2 6 (tq_N (a.2 3 (r * 11 + i))))), none]) (st' := [.int (pk + (if (if 0 ≤ ((nI i) - (nI x)) then ((nI i) - (nI x)) else 0 - ((nI i) - (nI x))) < (if 0 ≤ ((nI r) - (nI y)) then ((nI r) - (nI y)) else 0 - ((nI r) - (nI y))) then (if 0 ≤ ((nI r) - (nI y)) then ((nI r) - (nI y)) else 0 - ((nI r) - (nI y))) else (if 0 ≤ ((nI i) - (nI x)) then ((nI i) - (nI x)) else 0 - ((nI i) - (nI x))))), .int (if (a.2 6 (tq_N (a.2 3 (r * 11 + i)))) < (pk - (if (if 0 ≤ ((nI i) - (nI x)) then ((nI i) - (nI x)) else 0 - ((nI i) - (nI x))) < (if 0 ≤ ((nI r) - (nI y)) then ((nI r) - (nI y)) else 0 - ((nI r) - (nI y))) then (if 0 ≤ ((nI r) - (nI y)) then ((nI r) - (nI y)) else 0 - ((nI r) - (nI y))) else (if 0 ≤ ((nI i) - (nI x)) then ((nI i) - (nI x)) else 0 - ((nI i) - (nI x))))) then (pk - (if (if 0 ≤ ((nI i) - (nI x)) then ((nI i) - (nI x)) else 0 - ((nI i) - (nI x))) < (if 0 ≤ ((nI r) - (nI y)) then ((nI r) - (nI y)) else 0 - ((nI r) - (nI y))) then (if 0 ≤ ((nI r) - (nI y)) then ((nI r) - (nI y)) else 0 - ((nI r) - (nI y))) else (if 0 ≤ ((nI i) - (nI x)) then ((nI i) - (nI x)) else 0 - ((nI i) - (nI x))))) else (a.2 6 (tq_N (a.2 3 (r * 11 + i)))))]) (I' := a.2) (J' := J) rfl ?_
      refine EV_min (own := 11) (idx := 106) (pl := 475) C hR rfl (by decide) (by decide +kernel) (by decide) (Nat.le_of_ble_eq_true rfl) (Nat.zero_le _) (Nat.zero_le _) ?_
      refine EV_blk (own := 11) C rfl [(.istore 10, 0, 0, 0, 0), (.iload 5, 0, 0, 0, 0), (.aload_n 0, 0, 0, 0, 0), (.getfield 12, 11, 0, 368, 0), (.iload 7, 0, 0, 0, 0), (.iload 6, 0, 0, 0, 0), (.aload_n 0, 0, 0, 0, 0), (.getfield 12, 11, 0, 368, 0), (.getfield 135, 8, 1, 196, 0), (.iload 10, 0, 0, 0, 0)] (pc' := 172) (by decide +kernel) (lv' := [some (.ref 0), some (.int (nI x)), some (.int (nI y)), some (.int (nI t)), some (.int pk), some (.int a.1), some (.int (nI r)), some (.int (nI i)), some (.int (if (if 0 ≤ ((nI i) - (nI x)) then ((nI i) - (nI x)) else 0 - ((nI i) - (nI x))) < (if 0 ≤ ((nI r) - (nI y)) then ((nI r) - (nI y)) else 0 - ((nI r) - (nI y))) then (if 0 ≤ ((nI r) - (nI y)) then ((nI r) - (nI y)) else 0 - ((nI r) - (nI y))) else (if 0 ≤ ((nI i) - (nI x)) then ((nI i) - (nI x)) else 0 - ((nI i) - (nI x))))), some (.int (a.2 6 (tq_N (a.2 3 (r * 11 + i))))), some (.int (if (pk + (if (if 0 ≤ ((nI i) - (nI x)) then ((nI i) - (nI x)) else 0 - ((nI i) - (nI x))) < (if 0 ≤ ((nI r) - (nI y)) then ((nI r) - (nI y)) else 0 - ((nI r) - (nI y))) then (if 0 ≤ ((nI r) - (nI y)) then ((nI r) - (nI y)) else 0 - ((nI r) - (nI y))) else (if 0 ≤ ((nI i) - (nI x)) then ((nI i) - (nI x)) else 0 - ((nI i) - (nI x))))) < (if (a.2 6 (tq_N (a.2 3 (r * 11 + i)))) < (pk - (if (if 0 ≤ ((nI i) - (nI x)) then ((nI i) - (nI x)) else 0 - ((nI i) - (nI x))) < (if 0 ≤ ((nI r) - (nI y)) then ((nI r) - (nI y)) else 0 - ((nI r) - (nI y))) then (if 0 ≤ ((nI r) - (nI y)) then ((nI r) - (nI y)) else 0 - ((nI r) - (nI y))) else (if 0 ≤ ((nI i) - (nI x)) then ((nI i) - (nI x)) else 0 - ((nI i) - (nI x))))) then (pk - (if (if 0 ≤ ((nI i) - (nI x)) then ((nI i) - (nI x)) else 0 - ((nI i) - (nI x))) < (if 0 ≤ ((nI r) - (nI y)) then ((nI r) - (nI y)) else 0 - ((nI r) - (nI y))) then (if 0 ≤ ((nI r) - (nI y)) then ((nI r) - (nI y)) else 0 - ((nI r) - (nI y))) else (if 0 ≤ ((nI i) - (nI x)) then ((nI i) - (nI x)) else 0 - ((nI i) - (nI x))))) else (a.2 6 (tq_N (a.2 3 (r * 11 + i))))) then (pk + (if (if 0 ≤ ((nI i) - (nI x)) then ((nI i) - (nI x)) else 0 - ((nI i) - (nI x))) < (if 0 ≤ ((nI r) - (nI y)) then ((nI r) - (nI y)) else 0 - ((nI r) - (nI y))) then (if 0 ≤ ((nI r) - (nI y)) then ((nI r) - (nI y)) else 0 - ((nI r) - (nI y))) else (if 0 ≤ ((nI i) - (nI x)) then ((nI i) - (nI x)) else 0 - ((nI i) - (nI x))))) else (if (a.2 6 (tq_N (a.2 3 (r * 11 + i)))) < (pk - (if (if 0 ≤ ((nI i) - (nI x)) then ((nI i) - (nI x)) else 0 - ((nI i) - (nI x))) < (if 0 ≤ ((nI r) - (nI y)) then ((nI r) - (nI y)) else 0 - ((nI r) - (nI y))) then (if 0 ≤ ((nI r) - (nI y)) then ((nI r) - (nI y)) else 0 - ((nI r) - (nI y))) else (if 0 ≤ ((nI i) - (nI x)) then ((nI i) - (nI x)) else 0 - ((nI i) - (nI x))))) then (pk - (if (if 0 ≤ ((nI i) - (nI x)) then ((nI i) - (nI x)) else 0 - ((nI i) - (nI x))) < (if 0 ≤ ((nI r) - (nI y)) then ((nI r) - (nI y)) else 0 - ((nI r) - (nI y))) then (if 0 ≤ ((nI r) - (nI y)) then ((nI r) - (nI y)) else 0 - ((nI r) - (nI y))) else (if 0 ≤ ((nI i) - (nI x)) then ((nI i) - (nI x)) else 0 - ((nI i) - (nI x))))) else (a.2 6 (tq_N (a.2 3 (r * 11 + i)))))))]) (st' := [.int (if (pk + (if (if 0 ≤ ((nI i) - (nI x)) then ((nI i) - (nI x)) else 0 - ((nI i) - (nI x))) < (if 0 ≤ ((nI r) - (nI y)) then ((nI r) - (nI y)) else 0 - ((nI r) - (nI y))) then (if 0 ≤ ((nI r) - (nI y)) then ((nI r) - (nI y)) else 0 - ((nI r) - (nI y))) else (if 0 ≤ ((nI i) - (nI x)) then ((nI i) - (nI x)) else 0 - ((nI i) - (nI x))))) < (if (a.2 6 (tq_N (a.2 3 (r * 11 + i)))) < (pk - (if (if 0 ≤ ((nI i) - (nI x)) then ((nI i) - (nI x)) else 0 - ((nI i) - (nI x))) < (if 0 ≤ ((nI r) - (nI y)) then ((nI r) - (nI y)) else 0 - ((nI r) - (nI y))) then (if 0 ≤ ((nI r) - (nI y)) then ((nI r) - (nI y)) else 0 - ((nI r) - (nI y))) else (if 0 ≤ ((nI i) - (nI x)) then ((nI i) - (nI x)) else 0 - ((nI i) - (nI x))))) then (pk - (if (if 0 ≤ ((nI i) - (nI x)) then ((nI i) - (nI x)) else 0 - ((nI i) - (nI x))) < (if 0 ≤ ((nI r) - (nI y)) then ((nI r) - (nI y)) else 0 - ((nI r) - (nI y))) then (if 0 ≤ ((nI r) - (nI y)) then ((nI r) - (nI y)) else 0 - ((nI r) - (nI y))) else (if 0 ≤ ((nI i) - (nI x)) then ((nI i) - (nI x)) else 0 - ((nI i) - (nI x))))) else (a.2 6 (tq_N (a.2 3 (r * 11 + i))))) then (pk + (if (if 0 ≤ ((nI i) - (nI x)) then ((nI i) - (nI x)) else 0 - ((nI i) - (nI x))) < (if 0 ≤ ((nI r) - (nI y)) then ((nI r) - (nI y)) else 0 - ((nI r) - (nI y))) then (if 0 ≤ ((nI r) - (nI y)) then ((nI r) - (nI y)) else 0 - ((nI r) - (nI y))) else (if 0 ≤ ((nI i) - (nI x)) then ((nI i) - (nI x)) else 0 - ((nI i) - (nI x))))) else (if (a.2 6 (tq_N (a.2 3 (r * 11 + i)))) < (pk - (if (if 0 ≤ ((nI i) - (nI x)) then ((nI i) - (nI x)) else 0 - ((nI i) - (nI x))) < (if 0 ≤ ((nI r) - (nI y)) then ((nI r) - (nI y)) else 0 - ((nI r) - (nI y))) then (if 0 ≤ ((nI r) - (nI y)) then ((nI r) - (nI y)) else 0 - ((nI r) - (nI y))) else (if 0 ≤ ((nI i) - (nI x)) then ((nI i) - (nI x)) else 0 - ((nI i) - (nI x))))) then (pk - (if (if 0 ≤ ((nI i) - (nI x)) then ((nI i) - (nI x)) else 0 - ((nI i) - (nI x))) < (if 0 ≤ ((nI r) - (nI y)) then ((nI r) - (nI y)) else 0 - ((nI r) - (nI y))) then (if 0 ≤ ((nI r) - (nI y)) then ((nI r) - (nI y)) else 0 - ((nI r) - (nI y))) else (if 0 ≤ ((nI i) - (nI x)) then ((nI i) - (nI x)) else 0 - ((nI i) - (nI x))))) else (a.2 6 (tq_N (a.2 3 (r * 11 + i)))))), .ref 5, .int (nI r), .int (nI i), .ref 1, .int a.1]) (I' := a.2) (J' := J) rfl ?_
      have hh6 := hI.r6 (tq_N (a.2 3 (r * 11 + i))) (by have := tq_N5 (hI.ter i r (by omega) (by omega)); omega)
      have hn6 := tq_N5 hh6
      have hnp := tq_N5 hpk
      refine EV_ste (st' := [.int (nI (min (max (tq_N (a.2 6 (tq_N (a.2 3 (r * 11 + i))))) (tq_N pk - (max ((i - x) + (x - i)) ((r - y) + (y - r))))) (tq_N pk + (max ((i - x) + (x - i)) ((r - y) + (y - r)))))), .ref 5, .int (nI r), .int (nI i), .ref 1, .int a.1]) (by rw [tq_gets (by omega) (by omega) (by omega) (by omega) hh6 hpk]) ?_
      refine EV_cV (own := 11) (idx := 147) (μ' := mX6_terrainWithRank) (b := 5) (cb := 6) (av := [.int (nI (min (max (tq_N (a.2 6 (tq_N (a.2 3 (r * 11 + i))))) (tq_N pk - (max ((i - x) + (x - i)) ((r - y) + (y - r))))) (tq_N pk + (max ((i - x) + (x - i)) ((r - y) + (y - r))))))]) (rest := [.int (nI r), .int (nI i), .ref 1, .int a.1]) C hR rfl (Or.inl ⟨530, by decide⟩) kX6_terrainWithRank sX6_terrainWithRank (c_X6_terrainWithRank g rest a.2 J (min (max (tq_N (a.2 6 (tq_N (a.2 3 (r * 11 + i))))) (tq_N pk - (max ((i - x) + (x - i)) ((r - y) + (y - r))))) (tq_N pk + (max ((i - x) + (x - i)) ((r - y) + (y - r))))) (by omega)) rfl rfl (by decide +kernel) rfl (by decide) (Nat.le_of_ble_eq_true rfl) rfl ⟨Nat.zero_le _, Nat.zero_le _⟩ ?_
      refine EV_cV (own := 11) (idx := 102) (μ' := mX8_changeCorner) (b := 1) (cb := 8) (av := [.int (nI i), .int (nI r), .int (a.2 7 (min (max (tq_N (a.2 6 (tq_N (a.2 3 (r * 11 + i))))) (tq_N pk - (max ((i - x) + (x - i)) ((r - y) + (y - r))))) (tq_N pk + (max ((i - x) + (x - i)) ((r - y) + (y - r))))))]) (rest := [.int a.1]) C hR rfl (Or.inl ⟨461, by decide⟩) kX8_changeCorner sX8_changeCorner (c_X8_changeCorner g rest a.2 J i r (a.2 7 (min (max (tq_N (a.2 6 (tq_N (a.2 3 (r * 11 + i))))) (tq_N pk - (max ((i - x) + (x - i)) ((r - y) + (y - r))))) (tq_N pk + (max ((i - x) + (x - i)) ((r - y) + (y - r)))))) (by omega) (by omega) hI.wh) rfl rfl (by decide +kernel) rfl (by decide) (Nat.le_of_ble_eq_true rfl) rfl ⟨Nat.zero_le _, Nat.zero_le _⟩ ?_
      refine EV_blk (own := 11) C rfl [(.iadd, 0, 0, 0, 0), (.istore 5, 0, 0, 0, 0), (.iinc 7 1, 0, 0, 0, (nI 1)), (.goto (-111), 0, 0, 0, 0)] (pc' := 73) (by decide +kernel) (lv' := [some (.ref 0), some (.int (nI x)), some (.int (nI y)), some (.int (nI t)), some (.int pk), some (.int (a.1 + (r_X8_changeCorner a.2 i r (a.2 7 (min (max (tq_N (a.2 6 (tq_N (a.2 3 (r * 11 + i))))) (tq_N pk - (max ((i - x) + (x - i)) ((r - y) + (y - r))))) (tq_N pk + (max ((i - x) + (x - i)) ((r - y) + (y - r))))))))), some (.int (nI r)), some (.int ((nI i) + (nI 1))), some (.int (if (if 0 ≤ ((nI i) - (nI x)) then ((nI i) - (nI x)) else 0 - ((nI i) - (nI x))) < (if 0 ≤ ((nI r) - (nI y)) then ((nI r) - (nI y)) else 0 - ((nI r) - (nI y))) then (if 0 ≤ ((nI r) - (nI y)) then ((nI r) - (nI y)) else 0 - ((nI r) - (nI y))) else (if 0 ≤ ((nI i) - (nI x)) then ((nI i) - (nI x)) else 0 - ((nI i) - (nI x))))), some (.int (a.2 6 (tq_N (a.2 3 (r * 11 + i))))), some (.int (if (pk + (if (if 0 ≤ ((nI i) - (nI x)) then ((nI i) - (nI x)) else 0 - ((nI i) - (nI x))) < (if 0 ≤ ((nI r) - (nI y)) then ((nI r) - (nI y)) else 0 - ((nI r) - (nI y))) then (if 0 ≤ ((nI r) - (nI y)) then ((nI r) - (nI y)) else 0 - ((nI r) - (nI y))) else (if 0 ≤ ((nI i) - (nI x)) then ((nI i) - (nI x)) else 0 - ((nI i) - (nI x))))) < (if (a.2 6 (tq_N (a.2 3 (r * 11 + i)))) < (pk - (if (if 0 ≤ ((nI i) - (nI x)) then ((nI i) - (nI x)) else 0 - ((nI i) - (nI x))) < (if 0 ≤ ((nI r) - (nI y)) then ((nI r) - (nI y)) else 0 - ((nI r) - (nI y))) then (if 0 ≤ ((nI r) - (nI y)) then ((nI r) - (nI y)) else 0 - ((nI r) - (nI y))) else (if 0 ≤ ((nI i) - (nI x)) then ((nI i) - (nI x)) else 0 - ((nI i) - (nI x))))) then (pk - (if (if 0 ≤ ((nI i) - (nI x)) then ((nI i) - (nI x)) else 0 - ((nI i) - (nI x))) < (if 0 ≤ ((nI r) - (nI y)) then ((nI r) - (nI y)) else 0 - ((nI r) - (nI y))) then (if 0 ≤ ((nI r) - (nI y)) then ((nI r) - (nI y)) else 0 - ((nI r) - (nI y))) else (if 0 ≤ ((nI i) - (nI x)) then ((nI i) - (nI x)) else 0 - ((nI i) - (nI x))))) else (a.2 6 (tq_N (a.2 3 (r * 11 + i))))) then (pk + (if (if 0 ≤ ((nI i) - (nI x)) then ((nI i) - (nI x)) else 0 - ((nI i) - (nI x))) < (if 0 ≤ ((nI r) - (nI y)) then ((nI r) - (nI y)) else 0 - ((nI r) - (nI y))) then (if 0 ≤ ((nI r) - (nI y)) then ((nI r) - (nI y)) else 0 - ((nI r) - (nI y))) else (if 0 ≤ ((nI i) - (nI x)) then ((nI i) - (nI x)) else 0 - ((nI i) - (nI x))))) else (if (a.2 6 (tq_N (a.2 3 (r * 11 + i)))) < (pk - (if (if 0 ≤ ((nI i) - (nI x)) then ((nI i) - (nI x)) else 0 - ((nI i) - (nI x))) < (if 0 ≤ ((nI r) - (nI y)) then ((nI r) - (nI y)) else 0 - ((nI r) - (nI y))) then (if 0 ≤ ((nI r) - (nI y)) then ((nI r) - (nI y)) else 0 - ((nI r) - (nI y))) else (if 0 ≤ ((nI i) - (nI x)) then ((nI i) - (nI x)) else 0 - ((nI i) - (nI x))))) then (pk - (if (if 0 ≤ ((nI i) - (nI x)) then ((nI i) - (nI x)) else 0 - ((nI i) - (nI x))) < (if 0 ≤ ((nI r) - (nI y)) then ((nI r) - (nI y)) else 0 - ((nI r) - (nI y))) then (if 0 ≤ ((nI r) - (nI y)) then ((nI r) - (nI y)) else 0 - ((nI r) - (nI y))) else (if 0 ≤ ((nI i) - (nI x)) then ((nI i) - (nI x)) else 0 - ((nI i) - (nI x))))) else (a.2 6 (tq_N (a.2 3 (r * 11 + i)))))))]) (st' := []) (I' := (I_X8_changeCorner a.2 i r (a.2 7 (min (max (tq_N (a.2 6 (tq_N (a.2 3 (r * 11 + i))))) (tq_N pk - (max ((i - x) + (x - i)) ((r - y) + (y - r))))) (tq_N pk + (max ((i - x) + (x - i)) ((r - y) + (y - r)))))))) (J' := J) rfl ?_
      refine EV_fg (lv' := [some (.ref 0), some (.int (nI x)), some (.int (nI y)), some (.int (nI t)), some (.int pk), some (.int (a.1 + (r_X8_changeCorner a.2 i r (a.2 7 (min (max (tq_N (a.2 6 (tq_N (a.2 3 (r * 11 + i))))) (tq_N pk - (max ((i - x) + (x - i)) ((r - y) + (y - r))))) (tq_N pk + (max ((i - x) + (x - i)) ((r - y) + (y - r))))))))), some (.int (nI r)), some (.int ((nI i) + (nI 1))), none, none, none]) ⟨rfl, rfl, rfl, rfl, rfl, rfl, rfl, rfl, trivial⟩ ?_
      rw [show ((nI i) + (nI 1)) = (nI (i + 1)) from by simp (disch := omega) only [nI_add, tq_mul] <;> exact congrArg nI (by omega)]
      rw [tq_its, show (f_ra1 x y t pk r w h o c L) i a = ((a.1 + (r_X8_changeCorner a.2 i r (a.2 7 (min (max (tq_N (a.2 6 (tq_N (a.2 3 (r * 11 + i))))) (tq_N pk - (max ((i - x) + (x - i)) ((r - y) + (y - r))))) (tq_N pk + (max ((i - x) + (x - i)) ((r - y) + (y - r)))))))), (I_X8_changeCorner a.2 i r (a.2 7 (min (max (tq_N (a.2 6 (tq_N (a.2 3 (r * 11 + i))))) (tq_N pk - (max ((i - x) + (x - i)) ((r - y) + (y - r))))) (tq_N pk + (max ((i - x) + (x - i)) ((r - y) + (y - r)))))))) from by simp only [f_ra1, if_neg h1]] at kk
      have ihx := ih (i + 1) ((a.1 + (r_X8_changeCorner a.2 i r (a.2 7 (min (max (tq_N (a.2 6 (tq_N (a.2 3 (r * 11 + i))))) (tq_N pk - (max ((i - x) + (x - i)) ((r - y) + (y - r))))) (tq_N pk + (max ((i - x) + (x - i)) ((r - y) + (y - r)))))))), (I_X8_changeCorner a.2 i r (a.2 7 (min (max (tq_N (a.2 6 (tq_N (a.2 3 (r * 11 + i))))) (tq_N pk - (max ((i - x) + (x - i)) ((r - y) + (y - r))))) (tq_N pk + (max ((i - x) + (x - i)) ((r - y) + (y - r)))))))) (by omega)
      dsimp only at ihx
      exact ihx (tq_ok.cc hI (hI.r7 _ (by omega)) _ _) kk
theorem fr_ra1 (x y t : Nat) (pk : Int32) (r : Nat) (w h o c L : Nat) {cz : Nat} (hc : cz ≠ 3 ∧ cz ≠ 16) (n i : Nat) (a : Int32 × tq_I) (jz : Nat) : (tq_it (f_ra1 x y t pk r w h o c L) n i a).2 cz jz = a.2 cz jz := by
  obtain ⟨hc0, hc1⟩ := hc
  refine tq_itF2 (fun i a j => ?_) n i a jz
  simp only [f_ra1]
  (repeat' split) <;> simp (disch := first | assumption | (simp only [ne_eq] at *; simp [*])) [tq_u, tq_cp, hc0, hc1, fr_tb1, fr_tb2, fr_X8_touchBlock, fr_X8_touchAll, fr_X8_changeCorner, fr_X8_changePath, fr_cb1, fr_cb2, fr_X8_changeBlock, fr_wipe1, fr_X1_wipe, fr_sm1, fr_sm2, fr_X8_startMap, fr_X6_place, fr_mt1, fr_mt2, fr_X6_moveTo, fr_ch2, fr_X10_choose, fr_X1_take, fr_fgt1, fr_X5_forget, fr_X5_meet, fr_gat1, fr_X5_gather, fr_dl1, fr_dl2, fr_X7_drawLayers, fr_dp1, fr_X7_drawPieces, fr_dr1, fr_X7_draw, fr_X9_add, fr_ac1, fr_X9_addCell, fr_tk0, fr_tk1, fr_tk2, fr_X9_take, fr_append111, fr_append113, fr_X4_acceptRowEnd, fr_X4_acceptNumber, fr_al1, fr_X4_acceptLetter, fr_X4_accept, fr_X11_touchAllIf, fr_X11_staleAt, fr_st1, fr_st2, fr_X11_writeItem, fr_wr1, fr_X11_writeRow, fr_wr2, fr_X11_write, fr_rg1, fr_rg2, fr_X11_regions, fr_fl1]
theorem tq_ok.ra1 {a : Int32 × tq_I} {x y t r w h o c L : Nat} {pk : Int32} (hpk : 0 ≤ pk.toInt ∧ pk.toInt ≤ 5) (hr : r ≤ h) (k : tq_ok a.2 w h o c L) (n i : Nat) (hi : i + n ≤ w + 1) : tq_ok (tq_it (f_ra1 x y t pk r w h o c L) n i a).2 w h o c L := tq_itB (fun b => tq_ok b.2 w h o c L) (w + 1) (fun i b hi hb => by
  have hh6 := hb.r6 (tq_N (b.2 3 (r * 11 + i))) (by have := tq_N5 (hb.ter i r (by omega) hr); omega)
  have hn6 := tq_N5 hh6
  have hnp := tq_N5 hpk
  simp only [f_ra1]
  exact tq_ok.cc hb (hb.r7 _ (by omega)) _ _) n i a hi k
def f_ra2 (x y t : Nat) (pk : Int32) (w h o c L : Nat) (i : Nat) (a : Int32 × tq_I) : Int32 × tq_I := ((tq_it (f_ra1 x y t pk i w h o c L) (w + 1) 0 (a.1, a.2)).1, (tq_it (f_ra1 x y t pk i w h o c L) (w + 1) 0 (a.1, a.2)).2)
set_option maxRecDepth 20000 in
theorem lp_ra2 {g : tq_G} {rest : List tq_S} {x0 : tq_X} (C : tq_C g mX11_raise x0) (hR : tq_ht x0 6 0 0) (J : Int64) (x y t : Nat) (pk : Int32) (w h o c L : Nat) (hx : x ≤ 10) (hy : y ≤ 10) (hpk : 0 ≤ pk.toInt ∧ pk.toInt ≤ 5) (hw10 : w ≤ 10) (hh10 : h ≤ 10) : ∀ (n i : Nat) (a : Int32 × tq_I), i + n = h + 1 → tq_ok a.2 w h o c L → EV g mX11_raise x0 0 0 193 [some (.ref 0), some (.int (nI x)), some (.int (nI y)), some (.int (nI t)), some (.int pk), some (.int ((tq_it (f_ra2 x y t pk w h o c L) n i a).1)), some (.int (nI (i + n))), none, none, none, none] [] (tq_SC ++ rest) tq_RR ((tq_it (f_ra2 x y t pk w h o c L) n i a).2) J → EV g mX11_raise x0 0 0 55 [some (.ref 0), some (.int (nI x)), some (.int (nI y)), some (.int (nI t)), some (.int pk), some (.int a.1), some (.int (nI i)), none, none, none, none] [] (tq_SC ++ rest) tq_RR a.2 J := by
  intro n
  induction n with
  | zero =>
    intro i a hi hI kk
    rw [Nat.add_zero] at kk
    refine EV_blk (own := 11) C rfl [(.iload 6, 0, 0, 0, 0), (.aload_n 0, 0, 0, 0, 0), (.getfield 12, 11, 0, 368, 0), (.getfield 77, 8, 0, 193, 0), (.getfield 87, 3, 1, 102, 0)] (pc' := 67) (by decide +kernel) (lv' := [some (.ref 0), some (.int (nI x)), some (.int (nI y)), some (.int (nI t)), some (.int pk), some (.int a.1), some (.int (nI i)), none, none, none, none]) (st' := [.int (a.2 2 1), .int (nI i)]) (I' := a.2) (J' := J) rfl ?_
    refine EV_icmp_gt (off := 126) (tgt := 193) C (by decide +kernel) (by decide) (fun h1 => ?_) (fun h1 => ?_)
    · skip
      exact kk
    · skip
      exact absurd h1 (by simp (disch := omega) only [Int32.lt_iff_toInt_lt, Int32.le_iff_toInt_le, Int32.toInt_zero, nI_toInt, tq_m1, hI.hh]; omega)
  | succ n ih =>
    intro i a hi hI kk
    rw [show i + (n + 1) = (i + 1) + n by omega] at kk
    refine EV_blk (own := 11) C rfl [(.iload 6, 0, 0, 0, 0), (.aload_n 0, 0, 0, 0, 0), (.getfield 12, 11, 0, 368, 0), (.getfield 77, 8, 0, 193, 0), (.getfield 87, 3, 1, 102, 0)] (pc' := 67) (by decide +kernel) (lv' := [some (.ref 0), some (.int (nI x)), some (.int (nI y)), some (.int (nI t)), some (.int pk), some (.int a.1), some (.int (nI i)), none, none, none, none]) (st' := [.int (a.2 2 1), .int (nI i)]) (I' := a.2) (J' := J) rfl ?_
    refine EV_icmp_gt (off := 126) (tgt := 193) C (by decide +kernel) (by decide) (fun h1 => ?_) (fun h1 => ?_)
    · skip
      exact absurd h1 (by simp (disch := omega) only [Int32.lt_iff_toInt_lt, Int32.le_iff_toInt_le, Int32.toInt_zero, nI_toInt, tq_m1, hI.hh]; omega)
    · skip
      refine EV_blk (own := 11) C rfl [(.iconst 0, 0, 0, 0, (nI 0)), (.istore 7, 0, 0, 0, 0)] (pc' := 73) (by decide +kernel) (lv' := [some (.ref 0), some (.int (nI x)), some (.int (nI y)), some (.int (nI t)), some (.int pk), some (.int a.1), some (.int (nI i)), some (.int (nI 0)), none, none, none]) (st' := []) (I' := a.2) (J' := J) rfl ?_
      refine lp_ra1 C hR J x y t pk i w h o c L hx hy hpk hw10 (by omega) hh10 (w + 1) 0 (a.1, a.2) (by omega) hI ?_
      refine EV_blk (own := 11) C rfl [(.iinc 6 1, 0, 0, 0, (nI 1)), (.goto (-135), 0, 0, 0, 0)] (pc' := 55) (by decide +kernel) (lv' := [some (.ref 0), some (.int (nI x)), some (.int (nI y)), some (.int (nI t)), some (.int pk), some (.int ((tq_it (f_ra1 x y t pk i w h o c L) (w + 1) 0 (a.1, a.2)).1)), some (.int ((nI i) + (nI 1))), some (.int (nI ((0 + (w + 1))))), none, none, none]) (st' := []) (I' := (tq_it (f_ra1 x y t pk i w h o c L) (w + 1) 0 (a.1, a.2)).2) (J' := J) rfl ?_
      refine EV_fg (lv' := [some (.ref 0), some (.int (nI x)), some (.int (nI y)), some (.int (nI t)), some (.int pk), some (.int ((tq_it (f_ra1 x y t pk i w h o c L) (w + 1) 0 (a.1, a.2)).1)), some (.int ((nI i) + (nI 1))), none, none, none, none]) ⟨rfl, rfl, rfl, rfl, rfl, rfl, rfl, trivial⟩ ?_
      rw [show ((nI i) + (nI 1)) = (nI (i + 1)) from by simp (disch := omega) only [nI_add, tq_mul] <;> exact congrArg nI (by omega)]
      rw [tq_its, show (f_ra2 x y t pk w h o c L) i a = ((tq_it (f_ra1 x y t pk i w h o c L) (w + 1) 0 (a.1, a.2)).1, (tq_it (f_ra1 x y t pk i w h o c L) (w + 1) 0 (a.1, a.2)).2) from by simp only [f_ra2, if_neg h1]] at kk
      exact ih (i + 1) ((tq_it (f_ra1 x y t pk i w h o c L) (w + 1) 0 (a.1, a.2)).1, (tq_it (f_ra1 x y t pk i w h o c L) (w + 1) 0 (a.1, a.2)).2) (by omega) (tq_ok.ra1 (a := (a.1, a.2)) hpk (by omega) hI _ _ (by omega)) kk
theorem fr_ra2 (x y t : Nat) (pk : Int32) (w h o c L : Nat) {cz : Nat} (hc : cz ≠ 3 ∧ cz ≠ 16) (n i : Nat) (a : Int32 × tq_I) (jz : Nat) : (tq_it (f_ra2 x y t pk w h o c L) n i a).2 cz jz = a.2 cz jz := by
  obtain ⟨hc0, hc1⟩ := hc
  refine tq_itF2 (fun i a j => ?_) n i a jz
  simp only [f_ra2]
  (repeat' split) <;> simp (disch := first | assumption | (simp only [ne_eq] at *; simp [*])) [tq_u, tq_cp, hc0, hc1, fr_tb1, fr_tb2, fr_X8_touchBlock, fr_X8_touchAll, fr_X8_changeCorner, fr_X8_changePath, fr_cb1, fr_cb2, fr_X8_changeBlock, fr_wipe1, fr_X1_wipe, fr_sm1, fr_sm2, fr_X8_startMap, fr_X6_place, fr_mt1, fr_mt2, fr_X6_moveTo, fr_ch2, fr_X10_choose, fr_X1_take, fr_fgt1, fr_X5_forget, fr_X5_meet, fr_gat1, fr_X5_gather, fr_dl1, fr_dl2, fr_X7_drawLayers, fr_dp1, fr_X7_drawPieces, fr_dr1, fr_X7_draw, fr_X9_add, fr_ac1, fr_X9_addCell, fr_tk0, fr_tk1, fr_tk2, fr_X9_take, fr_append111, fr_append113, fr_X4_acceptRowEnd, fr_X4_acceptNumber, fr_al1, fr_X4_acceptLetter, fr_X4_accept, fr_X11_touchAllIf, fr_X11_staleAt, fr_st1, fr_st2, fr_X11_writeItem, fr_wr1, fr_X11_writeRow, fr_wr2, fr_X11_write, fr_rg1, fr_rg2, fr_X11_regions, fr_fl1, fr_ra1]
def r_X11_raise (I : tq_I) (x y t : Int32) (w h o c L : Nat) : Int32 := (if (tq_b (tq_corner I x y)) = 0 then (-2) else (if (tq_b ((nI 0).toInt ≤ t.toInt ∧ t.toInt ≤ (nI 5).toInt)) = 0 then (-2) else (tq_it (f_ra2 (tq_N x) (tq_N y) (tq_N t) ((tq_rec I o c) 6 (tq_N t)) w h (tq_o1 o c) (tq_c1n c) L) (h + 1) 0 ((nI 0), (tq_rec I o c))).1))
def I_X11_raise (I : tq_I) (x y t : Int32) (w h o c L : Nat) : tq_I := (if (tq_b (tq_corner I x y)) = 0 then I else (if (tq_b ((nI 0).toInt ≤ t.toInt ∧ t.toInt ≤ (nI 5).toInt)) = 0 then I else (tq_it (f_ra2 (tq_N x) (tq_N y) (tq_N t) ((tq_rec I o c) 6 (tq_N t)) w h (tq_o1 o c) (tq_c1n c) L) (h + 1) 0 ((nI 0), (tq_rec I o c))).2))
set_option maxRecDepth 20000 in
theorem c_X11_raise (g : tq_G) (rest : List tq_S) (I : tq_I) (J : Int64) (x y t : Int32) (w h o c L : Nat) (k : tq_ok I w h o c L)  : CT g mX11_raise 6 0 0 [.ref 0, .int x, .int y, .int t] (tq_SC ++ rest) tq_RR I J (tq_ret (tq_SC ++ rest) tq_RR (some (.int (r_X11_raise I x y t w h o c L))) (I_X11_raise I x y t w h o c L) J) := by
  refine CT.ret kX11_raise (Nat.le_of_ble_eq_true rfl) (fun x0 C hR hZ => ?_)
  refine EV_en (lv' := [some (.ref 0), some (.int x), some (.int y), some (.int t), none, none, none, none, none, none, none]) 7 rfl ?_
  refine EV_blk (own := 11) C rfl [(.aload_n 0, 0, 0, 0, 0), (.getfield 12, 11, 0, 368, 0), (.getfield 77, 8, 0, 193, 0), (.iload_n 1, 0, 0, 0, 0), (.iload_n 2, 0, 0, 0, 0)] (pc' := 9) (by decide +kernel) (lv' := [some (.ref 0), some (.int x), some (.int y), some (.int t), none, none, none, none, none, none, none]) (st' := [.int y, .int x, .ref 2]) (I' := I) (J' := J) rfl ?_
  refine EV_cV (own := 11) (idx := 94) (μ' := mX3_isCorner) (b := 2) (cb := 3) (av := [.int x, .int y]) (rest := []) C hR rfl (Or.inl ⟨450, by decide⟩) kX3_isCorner sX3_isCorner (c_X3_isCorner g rest I J x y ) rfl rfl (by decide +kernel) rfl (by decide) (Nat.le_of_ble_eq_true rfl) rfl ⟨Nat.zero_le _, Nat.zero_le _⟩ ?_
  refine EV_if_eq (off := 10) (tgt := 22) C (by decide +kernel) (by decide) (fun h1 => ?_) (fun h1 => ?_)
  · skip
    refine EV_blk (own := 11) C rfl [(.bipush (-2), 0, 0, 0, (-2))] (pc' := 24) (by decide +kernel) (lv' := [some (.ref 0), some (.int x), some (.int y), some (.int t), none, none, none, none, none, none, none]) (st' := [.int (-2)]) (I' := I) (J' := J) rfl ?_
    exact EV_iret C hZ rfl (by decide +kernel) (Nat.le_refl _) (Nat.le_refl _) ⟨tq_some (by simp only [r_X11_raise, if_pos h1]), rfl, rfl, by simp only [I_X11_raise, if_pos h1], rfl⟩
  · skip
    have h0 := tq_b10 h1
    have hxy := k.corner h0
    refine EV_blk (own := 11) C rfl [(.iload_n 3, 0, 0, 0, 0)] (pc' := 16) (by decide +kernel) (lv' := [some (.ref 0), some (.int x), some (.int y), some (.int t), none, none, none, none, none, none, none]) (st' := [.int t]) (I' := I) (J' := J) rfl ?_
    refine EV_cS (own := 11) (idx := 65) (μ' := mX11_isTerrain) (av := [.int t]) (rest := []) C hR rfl (Or.inl ⟨397, by decide⟩) kX11_isTerrain sX11_isTerrain (c_X11_isTerrain g rest I J t ) (by decide +kernel) rfl (by decide) (Nat.le_of_ble_eq_true rfl) rfl ⟨Nat.zero_le _, Nat.zero_le _⟩ ?_
    refine EV_if_ne (off := 6) (tgt := 25) C (by decide +kernel) (by decide) (fun h2 => ?_) (fun h2 => ?_)
    · skip
      have ht := tq_t05 (tq_b10 h2)
      refine EV_lve (lv' := [some (.ref 0), some (.int (nI (tq_N x))), some (.int (nI (tq_N y))), some (.int (nI (tq_N t))), none, none, none, none, none, none, none]) (by rw [← tq_nIN h0.1, ← tq_nIN h0.2.2.1, ← tq_nIN ht.1]) ?_
      refine EV_blk (own := 11) C rfl [(.aload_n 0, 0, 0, 0, 0), (.getfield 19, 11, 1, 369, 0), (.aload_n 0, 0, 0, 0, 0), (.getfield 12, 11, 0, 368, 0)] (pc' := 33) (by decide +kernel) (lv' := [some (.ref 0), some (.int (nI (tq_N x))), some (.int (nI (tq_N y))), some (.int (nI (tq_N t))), none, none, none, none, none, none, none]) (st' := [.ref 1, .ref 17]) (I' := I) (J' := J) rfl ?_
      refine EV_cV (own := 11) (idx := 73) (μ' := mX2_record) (b := 17) (cb := 2) (av := [.ref 1]) (rest := []) C hR rfl (Or.inl ⟨403, by decide⟩) kX2_record sX2_record (c_X2_record g rest I J o c k.ho k.hc k.o5 k.c5 k.bd) rfl rfl (by decide +kernel) rfl (by decide) (Nat.le_of_ble_eq_true rfl) rfl ⟨Nat.zero_le _, Nat.zero_le _⟩ ?_
      refine EV_blk (own := 11) C rfl [(.aload_n 0, 0, 0, 0, 0), (.getfield 12, 11, 0, 368, 0), (.getfield 135, 8, 1, 196, 0), (.iload_n 3, 0, 0, 0, 0)] (pc' := 44) (by decide +kernel) (lv' := [some (.ref 0), some (.int (nI (tq_N x))), some (.int (nI (tq_N y))), some (.int (nI (tq_N t))), none, none, none, none, none, none, none]) (st' := [.int (nI (tq_N t)), .ref 5]) (I' := (tq_rec I o c)) (J' := J) rfl ?_
      refine EV_cV (own := 11) (idx := 139) (μ' := mX6_rankOf) (b := 5) (cb := 6) (av := [.int (nI (tq_N t))]) (rest := []) C hR rfl (Or.inl ⟨523, by decide⟩) kX6_rankOf sX6_rankOf (c_X6_rankOf g rest (tq_rec I o c) J (tq_N t) (by omega)) rfl rfl (by decide +kernel) rfl (by decide) (Nat.le_of_ble_eq_true rfl) rfl ⟨Nat.zero_le _, Nat.zero_le _⟩ ?_
      refine EV_blk (own := 11) C rfl [(.istore 4, 0, 0, 0, 0), (.iconst 0, 0, 0, 0, (nI 0)), (.istore 5, 0, 0, 0, 0), (.iconst 0, 0, 0, 0, (nI 0)), (.istore 6, 0, 0, 0, 0)] (pc' := 55) (by decide +kernel) (lv' := [some (.ref 0), some (.int (nI (tq_N x))), some (.int (nI (tq_N y))), some (.int (nI (tq_N t))), some (.int ((tq_rec I o c) 6 (tq_N t))), some (.int (nI 0)), some (.int (nI 0)), none, none, none, none]) (st' := []) (I' := (tq_rec I o c)) (J' := J) rfl ?_
      refine lp_ra2 C hR J (tq_N x) (tq_N y) (tq_N t) ((tq_rec I o c) 6 (tq_N t)) w h (tq_o1 o c) (tq_c1n c) L hxy.2.2.1 hxy.2.2.2 (k.rec.r6 (tq_N t) (by omega)) k.w10 k.h10 (h + 1) 0 ((nI 0), (tq_rec I o c)) (by omega) k.rec ?_
      refine EV_blk (own := 11) C rfl [(.iload 5, 0, 0, 0, 0)] (pc' := 195) (by decide +kernel) (lv' := [some (.ref 0), some (.int (nI (tq_N x))), some (.int (nI (tq_N y))), some (.int (nI (tq_N t))), some (.int ((tq_rec I o c) 6 (tq_N t))), some (.int ((tq_it (f_ra2 (tq_N x) (tq_N y) (tq_N t) ((tq_rec I o c) 6 (tq_N t)) w h (tq_o1 o c) (tq_c1n c) L) (h + 1) 0 ((nI 0), (tq_rec I o c))).1)), some (.int (nI ((0 + (h + 1))))), none, none, none, none]) (st' := [.int ((tq_it (f_ra2 (tq_N x) (tq_N y) (tq_N t) ((tq_rec I o c) 6 (tq_N t)) w h (tq_o1 o c) (tq_c1n c) L) (h + 1) 0 ((nI 0), (tq_rec I o c))).1)]) (I' := (tq_it (f_ra2 (tq_N x) (tq_N y) (tq_N t) ((tq_rec I o c) 6 (tq_N t)) w h (tq_o1 o c) (tq_c1n c) L) (h + 1) 0 ((nI 0), (tq_rec I o c))).2) (J' := J) rfl ?_
      exact EV_iret C hZ rfl (by decide +kernel) (Nat.le_refl _) (Nat.le_refl _) ⟨tq_some (by simp only [r_X11_raise, if_neg h1, if_neg h2]), rfl, rfl, by simp only [I_X11_raise, if_neg h1, if_neg h2], rfl⟩
    · skip
      refine EV_blk (own := 11) C rfl [(.bipush (-2), 0, 0, 0, (-2))] (pc' := 24) (by decide +kernel) (lv' := [some (.ref 0), some (.int x), some (.int y), some (.int t), none, none, none, none, none, none, none]) (st' := [.int (-2)]) (I' := I) (J' := J) rfl ?_
      exact EV_iret C hZ rfl (by decide +kernel) (Nat.le_refl _) (Nat.le_refl _) ⟨tq_some (by simp only [r_X11_raise, if_neg h1, if_pos h2]), rfl, rfl, by simp only [I_X11_raise, if_neg h1, if_pos h2], rfl⟩
