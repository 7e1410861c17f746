def f_mpa1 (x y at_ p : Nat) (was : Int32) (i : Nat) (a : tq_I) : tq_I := (tq_u a 118 ((at_ + 2) + i) (a 127 i))
set_option maxRecDepth 20000 in
theorem lp_mpa1 {g : tq_G} {x0 : tq_X} (C : tq_C g mX12_paints x0) (hR : tq_ht x0 6 0 0) (J : Int64) (x y at_ p : Nat) (was : Int32) (hat : at_ ≤ 1400) (hp16 : p ≤ 16) : ∀ (n i : Nat) (a : tq_I), i + n = p → a 117 15 = nI p → EV g mX12_paints x0 0 0 86 [some (.ref 117), some (.int (nI x)), some (.int (nI y)), some (.int was), some (.int (nI at_)), some (.int (nI (i + n)))] [] (tq_SC ++ tq_SR) tq_RR (tq_it (f_mpa1 x y at_ p was) n i a) J → EV g mX12_paints x0 0 0 52 [some (.ref 117), some (.int (nI x)), some (.int (nI y)), some (.int was), some (.int (nI at_)), some (.int (nI i))] [] (tq_SC ++ tq_SR) tq_RR a J := by
  intro n
  induction n with
  | zero =>
    intro i a hi hI kk
    rw [Nat.add_zero] at kk
    refine EV_blk (own := 12) C rfl [(.iload 5, 0, 0, 0, 0), (.aload_n 0, 0, 0, 0, 0), (.getfield 152, 12, 15, 914, 0)] (pc' := 58) (by decide +kernel) (lv' := [some (.ref 117), some (.int (nI x)), some (.int (nI y)), some (.int was), some (.int (nI at_)), some (.int (nI i))]) (st' := [.int (a 117 15), .int (nI i)]) (I' := a) (J' := J) rfl ?_
    refine EV_icmp_ge (off := 28) (tgt := 86) C (by decide +kernel) (by decide) (fun h1 => ?_) (fun h1 => ?_)
    · skip
      exact kk
    · skip
      exact absurd h1 (by simp (disch := omega) only [Int32.lt_iff_toInt_lt, Int32.le_iff_toInt_le, Int32.toInt_zero, nI_toInt, tq_m1, hI]; omega)
  | succ n ih =>
    intro i a hi hI kk
    rw [show i + (n + 1) = (i + 1) + n by omega] at kk
    refine EV_blk (own := 12) C rfl [(.iload 5, 0, 0, 0, 0), (.aload_n 0, 0, 0, 0, 0), (.getfield 152, 12, 15, 914, 0)] (pc' := 58) (by decide +kernel) (lv' := [some (.ref 117), some (.int (nI x)), some (.int (nI y)), some (.int was), some (.int (nI at_)), some (.int (nI i))]) (st' := [.int (a 117 15), .int (nI i)]) (I' := a) (J' := J) rfl ?_
    refine EV_icmp_ge (off := 28) (tgt := 86) C (by decide +kernel) (by decide) (fun h1 => ?_) (fun h1 => ?_)
    · skip
      exact absurd h1 (by simp (disch := omega) only [Int32.lt_iff_toInt_lt, Int32.le_iff_toInt_le, Int32.toInt_zero, nI_toInt, tq_m1, hI]; omega)
    · skip
      refine EV_blk (own := 12) C rfl [(.aload_n 0, 0, 0, 0, 0), (.getfield 7, 12, 0, 899, 0), (.iload 4, 0, 0, 0, 0), (.iconst 2, 0, 0, 0, (nI 2)), (.iadd, 0, 0, 0, 0), (.iload 5, 0, 0, 0, 0), (.iadd, 0, 0, 0, 0), (.aload_n 0, 0, 0, 0, 0), (.getfield 38, 12, 14, 913, 0), (.iload 5, 0, 0, 0, 0)] (pc' := 78) (by decide +kernel) (lv' := [some (.ref 117), some (.int (nI x)), some (.int (nI y)), some (.int was), some (.int (nI at_)), some (.int (nI i))]) (st' := [.int (nI i), .ref 127, .int (((nI at_) + (nI 2)) + (nI i)), .ref 118]) (I' := a) (J' := J) rfl ?_
      refine EV_iald (j := i) C (by decide +kernel) rfl (nI_toInt (by omega)) (by omega) ?_
      refine EV_iast (j := ((at_ + 2) + i)) C (by decide +kernel) rfl (tq_toI ((at_ + 2) + i) (by simp (disch := omega) only [nI_add, tq_mul, tq_rem_nI, tq_div_nI, tq_sub_nI]) (by omega)) (by omega) ?_
      refine EV_blk (own := 12) C rfl [(.iinc 5 1, 0, 0, 0, (nI 1)), (.goto (-31), 0, 0, 0, 0)] (pc' := 52) (by decide +kernel) (lv' := [some (.ref 117), some (.int (nI x)), some (.int (nI y)), some (.int was), some (.int (nI at_)), some (.int ((nI i) + (nI 1)))]) (st' := []) (I' := (tq_u a 118 ((at_ + 2) + i) (a 127 i))) (J' := J) rfl ?_
      rw [show ((nI i) + (nI 1)) = (nI (i + 1)) from by simp (disch := omega) only [nI_add, tq_mul] <;> exact congrArg nI (by omega)]
      rw [tq_its, show (f_mpa1 x y at_ p was) i a = (tq_u a 118 ((at_ + 2) + i) (a 127 i)) from by simp only [f_mpa1, if_neg h1]] at kk
      exact ih (i + 1) (tq_u a 118 ((at_ + 2) + i) (a 127 i)) (by omega) (by rw [tq_u_cell (by decide)]; exact hI) kk
theorem fr_mpa1 (x y at_ p : Nat) (was : Int32) {cz : Nat} (hc : cz ≠ 118) (n i : Nat) (a : tq_I) (jz : Nat) : (tq_it (f_mpa1 x y at_ p was) n i a) cz jz = a cz jz := by
  have hc0 := hc
  refine tq_itF (fun i a j => ?_) n i a jz
  simp only [f_mpa1]
  (repeat' split) <;> simp (disch := first | assumption | (simp only [ne_eq] at *; simp [*])) [tq_u, tq_cp, hc0, fr_X12_touches, fr_ta1, fr_X12_touchesAll, fr_cps1, fr_X12_copies, fr_sav, fr_bg1, fr_bg2, fr_X12_begins, fr_ly1, fr_X12_lays, fr_bgn1, fr_X12_begin, fr_X12_setCorner, fr_fi1, fr_X12_fill, fr_fg1, fr_X12_forgets, fr_rc1, fr_rc2, fr_X12_reaches, fr_mfl1, fr_X12_flood, fr_mrg1, fr_X12_regions, fr_mra1, fr_X12_raise, fr_sp1, fr_X12_setPath, fr_sr1, fr_sr2, fr_X12_setRank, fr_X12_becomes, fr_X12_setTiles, fr_X12_setVariants, fr_X12_setSeed, fr_X12_setBorder, fr_X12_makesUp, fr_X12_finds, fr_X12_parts, fr_put, fr_mfy2, fr_X12_findsLayers, fr_mfp1, fr_mfp2, fr_X12_findsPieces, fr_X12_layers, fr_X12_layer, fr_X12_pieces, fr_X12_piece, fr_X12_isStaleAt]
theorem tr_bas.stl {I : tq_I} {x y w h : Nat} (k : tr_bas I w h) : tr_bas (I_X12_isStaleAt I x y w h) w h := k.fr (fr_X12_isStaleAt _ _ _ _ _ (by decide))
theorem tr_stl {I : tq_I} {x y w h : Nat} : I_X12_isStaleAt I x y w h = I_X12_findsPieces I x y w h := by
  unfold I_X12_isStaleAt
  (repeat' split) <;> rfl
theorem fs_mpa1 {x y at_ p : Nat} {was : Int32} (hat : 343 ≤ at_) (n i : Nat) (a : tq_I) (j : Nat) (hj : j < 343) : tq_it (f_mpa1 x y at_ p was) n i a 118 j = a 118 j := tq_itP (fun b => b 118 j = a 118 j) (fun i b hb => by rw [← hb]; exact tq_u_slot (by omega)) n i a rfl
def r_X12_paints (I : tq_I) (x y : Nat) (w h : Nat) : Int32 := (if (r_X12_isStaleAt I x y w h) = 0 then (nI 0) else (nI 1))
def I_X12_paints (I : tq_I) (x y : Nat) (w h : Nat) : tq_I := (if (r_X12_isStaleAt I x y w h) = 0 then (tq_u (tq_it (f_mpa1 x y (343 + 10 * (10 * y + x)) (tq_N ((I_X12_isStaleAt I x y w h) 117 15)) (nI 0)) (tq_N ((I_X12_isStaleAt I x y w h) 117 15)) 0 (tq_u (tq_u (I_X12_isStaleAt I x y w h) 118 (343 + 10 * (10 * y + x)) ((I_X12_isStaleAt I x y w h) 117 15)) 118 ((343 + 10 * (10 * y + x)) + 1) (r_X12_pathTileOf (tq_u (I_X12_isStaleAt I x y w h) 118 (343 + 10 * (10 * y + x)) ((I_X12_isStaleAt I x y w h) 117 15)) (nI x) (nI y) w h))) 118 ((243 + (10 * y)) + x) (nI 0)) else (tq_u (tq_it (f_mpa1 x y (343 + 10 * (10 * y + x)) (tq_N ((I_X12_isStaleAt I x y w h) 117 15)) (nI 1)) (tq_N ((I_X12_isStaleAt I x y w h) 117 15)) 0 (tq_u (tq_u (I_X12_isStaleAt I x y w h) 118 (343 + 10 * (10 * y + x)) ((I_X12_isStaleAt I x y w h) 117 15)) 118 ((343 + 10 * (10 * y + x)) + 1) (r_X12_pathTileOf (tq_u (I_X12_isStaleAt I x y w h) 118 (343 + 10 * (10 * y + x)) ((I_X12_isStaleAt I x y w h) 117 15)) (nI x) (nI y) w h))) 118 ((243 + (10 * y)) + x) (nI 0)))
set_option maxRecDepth 20000 in
theorem c_X12_paints (g : tq_G) (I : tq_I) (J : Int64) (x y : Nat) (w h : Nat) (hx : x ≤ 9) (hy : y ≤ 9) (k : tr_bas I w h) : CT g mX12_paints 6 0 0 [.ref 117, .int (nI x), .int (nI y)] (tq_SC ++ tq_SR) tq_RR I J (tq_ret (tq_SC ++ tq_SR) tq_RR (some (.int (r_X12_paints I x y w h))) (I_X12_paints I x y w h) J) := by
  refine CT.ret kX12_paints (Nat.le_of_ble_eq_true rfl) (fun x0 C hR hZ => ?_)
  refine EV_en (lv' := [some (.ref 117), some (.int (nI x)), some (.int (nI y)), none, none, none]) 3 rfl ?_
  refine EV_blk (own := 12) C rfl [(.aload_n 0, 0, 0, 0, 0), (.iload_n 1, 0, 0, 0, 0), (.iload_n 2, 0, 0, 0, 0)] (pc' := 3) (by decide +kernel) (lv' := [some (.ref 117), some (.int (nI x)), some (.int (nI y)), none, none, none]) (st' := [.int (nI y), .int (nI x), .ref 117]) (I' := I) (J' := J) rfl ?_
  refine EV_cV (own := 12) (idx := 167) (μ' := mX12_isStaleAt) (b := 117) (cb := 12) (av := [.int (nI x), .int (nI y)]) (rest := []) C hR rfl (Or.inl ⟨1185, by decide⟩) kX12_isStaleAt sX12_isStaleAt (c_X12_isStaleAt g I J x y w h (by omega) (by omega) k) rfl rfl (by decide +kernel) rfl (by decide) (Nat.le_of_ble_eq_true rfl) rfl ⟨Nat.zero_le _, Nat.zero_le _⟩ ?_
  refine EV_if_eq (off := 7) (tgt := 13) C (by decide +kernel) (by decide) (fun h1 => ?_) (fun h1 => ?_)
  · skip
    refine EV_blk (own := 12) C rfl [(.iconst 0, 0, 0, 0, (nI 0)), (.istore_n 3, 0, 0, 0, 0), (.aload_n 0, 0, 0, 0, 0), (.iload_n 1, 0, 0, 0, 0), (.iload_n 2, 0, 0, 0, 0)] (pc' := 18) (by decide +kernel) (lv' := [some (.ref 117), some (.int (nI x)), some (.int (nI y)), some (.int (nI 0)), none, none]) (st' := [.int (nI y), .int (nI x), .ref 117]) (I' := (I_X12_isStaleAt I x y w h)) (J' := J) rfl ?_
    refine EV_cV (own := 12) (idx := 164) (μ' := mX12_at) (b := 117) (cb := 12) (av := [.int (nI x), .int (nI y)]) (rest := []) C hR rfl (Or.inl ⟨1177, by decide⟩) kX12_at sX12_at (c_X12_at g (I_X12_isStaleAt I x y w h) J x y ) rfl rfl (by decide +kernel) rfl (by decide) (Nat.le_of_ble_eq_true rfl) rfl ⟨Nat.zero_le _, Nat.zero_le _⟩ ?_
    refine EV_blk (own := 12) C rfl [(.istore 4, 0, 0, 0, 0), (.aload_n 0, 0, 0, 0, 0), (.getfield 7, 12, 0, 899, 0), (.iload 4, 0, 0, 0, 0), (.aload_n 0, 0, 0, 0, 0), (.getfield 152, 12, 15, 914, 0)] (pc' := 33) (by decide +kernel) (lv' := [some (.ref 117), some (.int (nI x)), some (.int (nI y)), some (.int (nI 0)), some (.int (nI (343 + 10 * (10 * y + x)))), none]) (st' := [.int ((I_X12_isStaleAt I x y w h) 117 15), .int (nI (343 + 10 * (10 * y + x))), .ref 118]) (I' := (I_X12_isStaleAt I x y w h)) (J' := J) rfl ?_
    refine EV_iast (j := (343 + 10 * (10 * y + x))) C (by decide +kernel) rfl (nI_toInt (by omega)) (by omega) ?_
    refine EV_blk (own := 12) C rfl [(.aload_n 0, 0, 0, 0, 0), (.getfield 7, 12, 0, 899, 0), (.iload 4, 0, 0, 0, 0), (.iconst 1, 0, 0, 0, (nI 1)), (.iadd, 0, 0, 0, 0), (.aload_n 0, 0, 0, 0, 0), (.iload_n 1, 0, 0, 0, 0), (.iload_n 2, 0, 0, 0, 0)] (pc' := 45) (by decide +kernel) (lv' := [some (.ref 117), some (.int (nI x)), some (.int (nI y)), some (.int (nI 0)), some (.int (nI (343 + 10 * (10 * y + x)))), none]) (st' := [.int (nI y), .int (nI x), .ref 117, .int ((nI (343 + 10 * (10 * y + x))) + (nI 1)), .ref 118]) (I' := (tq_u (I_X12_isStaleAt I x y w h) 118 (343 + 10 * (10 * y + x)) ((I_X12_isStaleAt I x y w h) 117 15))) (J' := J) rfl ?_
    refine EV_cV (own := 12) (idx := 119) (μ' := mX12_pathTileOf) (b := 117) (cb := 12) (av := [.int (nI x), .int (nI y)]) (rest := [.int ((nI (343 + 10 * (10 * y + x))) + (nI 1)), .ref 118]) C hR rfl (Or.inl ⟨1077, by decide⟩) kX12_pathTileOf sX12_pathTileOf (c_X12_pathTileOf g (tq_u (I_X12_isStaleAt I x y w h) 118 (343 + 10 * (10 * y + x)) ((I_X12_isStaleAt I x y w h) 117 15)) J (nI x) (nI y) w h (k.stl.1.cong (tq_u_slot (by omega)) (tq_u_slot (by omega)))) rfl rfl (by decide +kernel) rfl (by decide) (Nat.le_of_ble_eq_true rfl) rfl ⟨Nat.zero_le _, Nat.zero_le _⟩ ?_
    refine EV_iast (j := ((343 + 10 * (10 * y + x)) + 1)) C (by decide +kernel) rfl (tq_toI ((343 + 10 * (10 * y + x)) + 1) (by simp (disch := omega) only [nI_add, tq_mul, tq_rem_nI, tq_div_nI, tq_sub_nI]) (by omega)) (by omega) ?_
    refine EV_blk (own := 12) C rfl [(.iconst 0, 0, 0, 0, (nI 0)), (.istore 5, 0, 0, 0, 0)] (pc' := 52) (by decide +kernel) (lv' := [some (.ref 117), some (.int (nI x)), some (.int (nI y)), some (.int (nI 0)), some (.int (nI (343 + 10 * (10 * y + x)))), some (.int (nI 0))]) (st' := []) (I' := (tq_u (tq_u (I_X12_isStaleAt I x y w h) 118 (343 + 10 * (10 * y + x)) ((I_X12_isStaleAt I x y w h) 117 15)) 118 ((343 + 10 * (10 * y + x)) + 1) (r_X12_pathTileOf (tq_u (I_X12_isStaleAt I x y w h) 118 (343 + 10 * (10 * y + x)) ((I_X12_isStaleAt I x y w h) 117 15)) (nI x) (nI y) w h))) (J' := J) rfl ?_
    have hp16 : tq_N ((I_X12_isStaleAt I x y w h) 117 15) ≤ 16 := by rw [tr_stl]; exact (tr_p16 k).2
    have hpe : (I_X12_isStaleAt I x y w h) 117 15 = nI (tq_N ((I_X12_isStaleAt I x y w h) 117 15)) := by rw [tr_stl]; exact tq_nIN (tr_p16 k).1.1
    refine lp_mpa1 C hR J x y (343 + 10 * (10 * y + x)) (tq_N ((I_X12_isStaleAt I x y w h) 117 15)) (nI 0) (by omega) hp16 (tq_N ((I_X12_isStaleAt I x y w h) 117 15)) 0 (tq_u (tq_u (I_X12_isStaleAt I x y w h) 118 (343 + 10 * (10 * y + x)) ((I_X12_isStaleAt I x y w h) 117 15)) 118 ((343 + 10 * (10 * y + x)) + 1) (r_X12_pathTileOf (tq_u (I_X12_isStaleAt I x y w h) 118 (343 + 10 * (10 * y + x)) ((I_X12_isStaleAt I x y w h) 117 15)) (nI x) (nI y) w h)) (by omega) (by rw [tq_u_cell (by decide), tq_u_cell (by decide)]; exact hpe) ?_
    refine EV_blk (own := 12) C rfl [(.aload_n 0, 0, 0, 0, 0), (.getfield 7, 12, 0, 899, 0), (.sipush 243, 0, 0, 0, (nI 243)), (.bipush 10, 0, 0, 0, (nI 10)), (.iload_n 2, 0, 0, 0, 0), (.imul, 0, 0, 0, 0), (.iadd, 0, 0, 0, 0), (.iload_n 1, 0, 0, 0, 0), (.iadd, 0, 0, 0, 0), (.iconst 0, 0, 0, 0, (nI 0))] (pc' := 101) (by decide +kernel) (lv' := [some (.ref 117), some (.int (nI x)), some (.int (nI y)), some (.int (nI 0)), some (.int (nI (343 + 10 * (10 * y + x)))), some (.int (nI ((0 + (tq_N ((I_X12_isStaleAt I x y w h) 117 15))))))]) (st' := [.int (nI 0), .int (((nI 243) + ((nI 10) * (nI y))) + (nI x)), .ref 118]) (I' := (tq_it (f_mpa1 x y (343 + 10 * (10 * y + x)) (tq_N ((I_X12_isStaleAt I x y w h) 117 15)) (nI 0)) (tq_N ((I_X12_isStaleAt I x y w h) 117 15)) 0 (tq_u (tq_u (I_X12_isStaleAt I x y w h) 118 (343 + 10 * (10 * y + x)) ((I_X12_isStaleAt I x y w h) 117 15)) 118 ((343 + 10 * (10 * y + x)) + 1) (r_X12_pathTileOf (tq_u (I_X12_isStaleAt I x y w h) 118 (343 + 10 * (10 * y + x)) ((I_X12_isStaleAt I x y w h) 117 15)) (nI x) (nI y) w h)))) (J' := J) rfl ?_
    refine EV_iast (j := ((243 + (10 * y)) + x)) C (by decide +kernel) rfl (tq_toI ((243 + (10 * y)) + x) (by simp (disch := omega) only [nI_add, tq_mul, tq_rem_nI, tq_div_nI, tq_sub_nI]) (by omega)) (by omega) ?_
    refine EV_blk (own := 12) C rfl [(.iload_n 3, 0, 0, 0, 0)] (pc' := 103) (by decide +kernel) (lv' := [some (.ref 117), some (.int (nI x)), some (.int (nI y)), some (.int (nI 0)), some (.int (nI (343 + 10 * (10 * y + x)))), some (.int (nI ((0 + (tq_N ((I_X12_isStaleAt I x y w h) 117 15))))))]) (st' := [.int (nI 0)]) (I' := (tq_u (tq_it (f_mpa1 x y (343 + 10 * (10 * y + x)) (tq_N ((I_X12_isStaleAt I x y w h) 117 15)) (nI 0)) (tq_N ((I_X12_isStaleAt I x y w h) 117 15)) 0 (tq_u (tq_u (I_X12_isStaleAt I x y w h) 118 (343 + 10 * (10 * y + x)) ((I_X12_isStaleAt I x y w h) 117 15)) 118 ((343 + 10 * (10 * y + x)) + 1) (r_X12_pathTileOf (tq_u (I_X12_isStaleAt I x y w h) 118 (343 + 10 * (10 * y + x)) ((I_X12_isStaleAt I x y w h) 117 15)) (nI x) (nI y) w h))) 118 ((243 + (10 * y)) + x) (nI 0))) (J' := J) rfl ?_
    exact EV_iret C hZ rfl (by decide +kernel) (Nat.le_refl _) (Nat.le_refl _) ⟨tq_some (by simp only [r_X12_paints, if_pos h1]), rfl, rfl, by simp only [I_X12_paints, if_pos h1], rfl⟩
  · skip
    refine EV_blk (own := 12) C rfl [(.iconst 1, 0, 0, 0, (nI 1)), (.goto 4, 0, 0, 0, 0), (.istore_n 3, 0, 0, 0, 0), (.aload_n 0, 0, 0, 0, 0), (.iload_n 1, 0, 0, 0, 0), (.iload_n 2, 0, 0, 0, 0)] (pc' := 18) (by decide +kernel) (lv' := [some (.ref 117), some (.int (nI x)), some (.int (nI y)), some (.int (nI 1)), none, none]) (st' := [.int (nI y), .int (nI x), .ref 117]) (I' := (I_X12_isStaleAt I x y w h)) (J' := J) rfl ?_
    refine EV_cV (own := 12) (idx := 164) (μ' := mX12_at) (b := 117) (cb := 12) (av := [.int (nI x), .int (nI y)]) (rest := []) C hR rfl (Or.inl ⟨1177, by decide⟩) kX12_at sX12_at (c_X12_at g (I_X12_isStaleAt I x y w h) J x y ) rfl rfl (by decide +kernel) rfl (by decide) (Nat.le_of_ble_eq_true rfl) rfl ⟨Nat.zero_le _, Nat.zero_le _⟩ ?_
    refine EV_blk (own := 12) C rfl [(.istore 4, 0, 0, 0, 0), (.aload_n 0, 0, 0, 0, 0), (.getfield 7, 12, 0, 899, 0), (.iload 4, 0, 0, 0, 0), (.aload_n 0, 0, 0, 0, 0), (.getfield 152, 12, 15, 914, 0)] (pc' := 33) (by decide +kernel) (lv' := [some (.ref 117), some (.int (nI x)), some (.int (nI y)), some (.int (nI 1)), some (.int (nI (343 + 10 * (10 * y + x)))), none]) (st' := [.int ((I_X12_isStaleAt I x y w h) 117 15), .int (nI (343 + 10 * (10 * y + x))), .ref 118]) (I' := (I_X12_isStaleAt I x y w h)) (J' := J) rfl ?_
    refine EV_iast (j := (343 + 10 * (10 * y + x))) C (by decide +kernel) rfl (nI_toInt (by omega)) (by omega) ?_
    refine EV_blk (own := 12) C rfl [(.aload_n 0, 0, 0, 0, 0), (.getfield 7, 12, 0, 899, 0), (.iload 4, 0, 0, 0, 0), (.iconst 1, 0, 0, 0, (nI 1)), (.iadd, 0, 0, 0, 0), (.aload_n 0, 0, 0, 0, 0), (.iload_n 1, 0, 0, 0, 0), (.iload_n 2, 0, 0, 0, 0)] (pc' := 45) (by decide +kernel) (lv' := [some (.ref 117), some (.int (nI x)), some (.int (nI y)), some (.int (nI 1)), some (.int (nI (343 + 10 * (10 * y + x)))), none]) (st' := [.int (nI y), .int (nI x), .ref 117, .int ((nI (343 + 10 * (10 * y + x))) + (nI 1)), .ref 118]) (I' := (tq_u (I_X12_isStaleAt I x y w h) 118 (343 + 10 * (10 * y + x)) ((I_X12_isStaleAt I x y w h) 117 15))) (J' := J) rfl ?_
    refine EV_cV (own := 12) (idx := 119) (μ' := mX12_pathTileOf) (b := 117) (cb := 12) (av := [.int (nI x), .int (nI y)]) (rest := [.int ((nI (343 + 10 * (10 * y + x))) + (nI 1)), .ref 118]) C hR rfl (Or.inl ⟨1077, by decide⟩) kX12_pathTileOf sX12_pathTileOf (c_X12_pathTileOf g (tq_u (I_X12_isStaleAt I x y w h) 118 (343 + 10 * (10 * y + x)) ((I_X12_isStaleAt I x y w h) 117 15)) J (nI x) (nI y) w h (k.stl.1.cong (tq_u_slot (by omega)) (tq_u_slot (by omega)))) rfl rfl (by decide +kernel) rfl (by decide) (Nat.le_of_ble_eq_true rfl) rfl ⟨Nat.zero_le _, Nat.zero_le _⟩ ?_
    refine EV_iast (j := ((343 + 10 * (10 * y + x)) + 1)) C (by decide +kernel) rfl (tq_toI ((343 + 10 * (10 * y + x)) + 1) (by simp (disch := omega) only [nI_add, tq_mul, tq_rem_nI, tq_div_nI, tq_sub_nI]) (by omega)) (by omega) ?_
    refine EV_blk (own := 12) C rfl [(.iconst 0, 0, 0, 0, (nI 0)), (.istore 5, 0, 0, 0, 0)] (pc' := 52) (by decide +kernel) (lv' := [some (.ref 117), some (.int (nI x)), some (.int (nI y)), some (.int (nI 1)), some (.int (nI (343 + 10 * (10 * y + x)))), some (.int (nI 0))]) (st' := []) (I' := (tq_u (tq_u (I_X12_isStaleAt I x y w h) 118 (343 + 10 * (10 * y + x)) ((I_X12_isStaleAt I x y w h) 117 15)) 118 ((343 + 10 * (10 * y + x)) + 1) (r_X12_pathTileOf (tq_u (I_X12_isStaleAt I x y w h) 118 (343 + 10 * (10 * y + x)) ((I_X12_isStaleAt I x y w h) 117 15)) (nI x) (nI y) w h))) (J' := J) rfl ?_
    have hp16 : tq_N ((I_X12_isStaleAt I x y w h) 117 15) ≤ 16 := by rw [tr_stl]; exact (tr_p16 k).2
    have hpe : (I_X12_isStaleAt I x y w h) 117 15 = nI (tq_N ((I_X12_isStaleAt I x y w h) 117 15)) := by rw [tr_stl]; exact tq_nIN (tr_p16 k).1.1
    refine lp_mpa1 C hR J x y (343 + 10 * (10 * y + x)) (tq_N ((I_X12_isStaleAt I x y w h) 117 15)) (nI 1) (by omega) hp16 (tq_N ((I_X12_isStaleAt I x y w h) 117 15)) 0 (tq_u (tq_u (I_X12_isStaleAt I x y w h) 118 (343 + 10 * (10 * y + x)) ((I_X12_isStaleAt I x y w h) 117 15)) 118 ((343 + 10 * (10 * y + x)) + 1) (r_X12_pathTileOf (tq_u (I_X12_isStaleAt I x y w h) 118 (343 + 10 * (10 * y + x)) ((I_X12_isStaleAt I x y w h) 117 15)) (nI x) (nI y) w h)) (by omega) (by rw [tq_u_cell (by decide), tq_u_cell (by decide)]; exact hpe) ?_
    refine EV_blk (own := 12) C rfl [(.aload_n 0, 0, 0, 0, 0), (.getfield 7, 12, 0, 899, 0), (.sipush 243, 0, 0, 0, (nI 243)), (.bipush 10, 0, 0, 0, (nI 10)), (.iload_n 2, 0, 0, 0, 0), (.imul, 0, 0, 0, 0), (.iadd, 0, 0, 0, 0), (.iload_n 1, 0, 0, 0, 0), (.iadd, 0, 0, 0, 0), (.iconst 0, 0, 0, 0, (nI 0))] (pc' := 101) (by decide +kernel) (lv' := [some (.ref 117), some (.int (nI x)), some (.int (nI y)), some (.int (nI 1)), some (.int (nI (343 + 10 * (10 * y + x)))), some (.int (nI ((0 + (tq_N ((I_X12_isStaleAt I x y w h) 117 15))))))]) (st' := [.int (nI 0), .int (((nI 243) + ((nI 10) * (nI y))) + (nI x)), .ref 118]) (I' := (tq_it (f_mpa1 x y (343 + 10 * (10 * y + x)) (tq_N ((I_X12_isStaleAt I x y w h) 117 15)) (nI 1)) (tq_N ((I_X12_isStaleAt I x y w h) 117 15)) 0 (tq_u (tq_u (I_X12_isStaleAt I x y w h) 118 (343 + 10 * (10 * y + x)) ((I_X12_isStaleAt I x y w h) 117 15)) 118 ((343 + 10 * (10 * y + x)) + 1) (r_X12_pathTileOf (tq_u (I_X12_isStaleAt I x y w h) 118 (343 + 10 * (10 * y + x)) ((I_X12_isStaleAt I x y w h) 117 15)) (nI x) (nI y) w h)))) (J' := J) rfl ?_
    refine EV_iast (j := ((243 + (10 * y)) + x)) C (by decide +kernel) rfl (tq_toI ((243 + (10 * y)) + x) (by simp (disch := omega) only [nI_add, tq_mul, tq_rem_nI, tq_div_nI, tq_sub_nI]) (by omega)) (by omega) ?_
    refine EV_blk (own := 12) C rfl [(.iload_n 3, 0, 0, 0, 0)] (pc' := 103) (by decide +kernel) (lv' := [some (.ref 117), some (.int (nI x)), some (.int (nI y)), some (.int (nI 1)), some (.int (nI (343 + 10 * (10 * y + x)))), some (.int (nI ((0 + (tq_N ((I_X12_isStaleAt I x y w h) 117 15))))))]) (st' := [.int (nI 1)]) (I' := (tq_u (tq_it (f_mpa1 x y (343 + 10 * (10 * y + x)) (tq_N ((I_X12_isStaleAt I x y w h) 117 15)) (nI 1)) (tq_N ((I_X12_isStaleAt I x y w h) 117 15)) 0 (tq_u (tq_u (I_X12_isStaleAt I x y w h) 118 (343 + 10 * (10 * y + x)) ((I_X12_isStaleAt I x y w h) 117 15)) 118 ((343 + 10 * (10 * y + x)) + 1) (r_X12_pathTileOf (tq_u (I_X12_isStaleAt I x y w h) 118 (343 + 10 * (10 * y + x)) ((I_X12_isStaleAt I x y w h) 117 15)) (nI x) (nI y) w h))) 118 ((243 + (10 * y)) + x) (nI 0))) (J' := J) rfl ?_
    exact EV_iret C hZ rfl (by decide +kernel) (Nat.le_refl _) (Nat.le_refl _) ⟨tq_some (by simp only [r_X12_paints, if_neg h1]), rfl, rfl, by simp only [I_X12_paints, if_neg h1], rfl⟩
theorem fr_X12_paints (I : tq_I) (x y : Nat) (w h : Nat) {cz : Nat} (hc : cz ≠ 117 ∧ cz ≠ 118 ∧ cz ≠ 124 ∧ cz ≠ 125 ∧ cz ≠ 126 ∧ cz ≠ 127) (jz : Nat) : I_X12_paints I x y w h cz jz = I cz jz := by
  obtain ⟨hc0, hc1, hc2, hc3, hc4, hc5⟩ := hc
  simp only [I_X12_paints]
  (repeat' split) <;> simp (disch := first | assumption | (simp only [ne_eq] at *; simp [*])) [tq_u, tq_cp, hc0, hc1, hc2, hc3, hc4, hc5, fr_X12_touches, fr_ta1, fr_X12_touchesAll, fr_cps1, fr_X12_copies, fr_sav, fr_bg1, fr_bg2, fr_X12_begins, fr_ly1, fr_X12_lays, fr_bgn1, fr_X12_begin, fr_X12_setCorner, fr_fi1, fr_X12_fill, fr_fg1, fr_X12_forgets, fr_rc1, fr_rc2, fr_X12_reaches, fr_mfl1, fr_X12_flood, fr_mrg1, fr_X12_regions, fr_mra1, fr_X12_raise, fr_sp1, fr_X12_setPath, fr_sr1, fr_sr2, fr_X12_setRank, fr_X12_becomes, fr_X12_setTiles, fr_X12_setVariants, fr_X12_setSeed, fr_X12_setBorder, fr_X12_makesUp, fr_X12_finds, fr_X12_parts, fr_put, fr_mfy2, fr_X12_findsLayers, fr_mfp1, fr_mfp2, fr_X12_findsPieces, fr_X12_layers, fr_X12_layer, fr_X12_pieces, fr_X12_piece, fr_X12_isStaleAt, fr_mpa1]
theorem fs_paints {I : tq_I} {x y w h j : Nat} (hj : j < 243) : I_X12_paints I x y w h 118 j = I 118 j := by
  unfold I_X12_paints
  (repeat' split) <;> (rw [tq_u_slot (by omega), fs_mpa1 (by omega) _ _ _ _ (by omega), tq_u_slot (by omega), tq_u_slot (by omega), fr_X12_isStaleAt _ _ _ _ _ (by decide)])
theorem fs_paints7 {I : tq_I} {x y w h j : Nat} (hj : j ≠ 10 ∧ j ≠ 13 ∧ j ≠ 15) : I_X12_paints I x y w h 117 j = I_X12_findsPieces I x y w h 117 j := by
  unfold I_X12_paints
  (repeat' split) <;> (rw [tq_u_cell (by decide), fr_mpa1 _ _ _ _ _ (by decide), tq_u_cell (by decide), tq_u_cell (by decide), tr_stl])
theorem tr_bas.paints {I : tq_I} {x y w h : Nat} (k : tr_bas I w h) : tr_bas (I_X12_paints I x y w h) w h := k.cong (fun j hj => fs_paints (by omega))
theorem tr_bas.sav {I : tq_I} {w h s : Nat} (k : tr_bas I w h) : tr_bas (tr_sav I s) w h := k.cong (fun j hj => fs_sav (by omega))
def r_X12_isStale (I : tq_I) (x y : Int32) (w h : Nat) : Int32 := (if (tq_b (tr_cell I x y)) = 0 then (-2) else (if (r_X12_isStaleAt I (tq_N x) (tq_N y) w h) = 0 then (nI 0) else (nI 1)))
def I_X12_isStale (I : tq_I) (x y : Int32) (w h : Nat) : tq_I := (if (tq_b (tr_cell I x y)) = 0 then I else (if (r_X12_isStaleAt I (tq_N x) (tq_N y) w h) = 0 then (I_X12_isStaleAt I (tq_N x) (tq_N y) w h) else (I_X12_isStaleAt I (tq_N x) (tq_N y) w h)))
set_option maxRecDepth 20000 in
theorem c_X12_isStale (g : tq_G) (I : tq_I) (J : Int64) (x y : Int32) (w h : Nat) (k : tr_bas I w h)  : CT g mX12_isStale 6 0 0 [.ref 117, .int x, .int y] (tq_SC ++ tq_SR) tq_RR I J (tq_ret (tq_SC ++ tq_SR) tq_RR (some (.int (r_X12_isStale I x y w h))) (I_X12_isStale I x y w h) J) := by
  refine CT.ret kX12_isStale (Nat.le_of_ble_eq_true rfl) (fun x0 C hR hZ => ?_)
  refine EV_en (lv' := [some (.ref 117), some (.int x), some (.int y)]) 0 rfl ?_
  refine EV_blk (own := 12) C rfl [(.aload_n 0, 0, 0, 0, 0), (.iload_n 1, 0, 0, 0, 0), (.iload_n 2, 0, 0, 0, 0)] (pc' := 3) (by decide +kernel) (lv' := [some (.ref 117), some (.int x), some (.int y)]) (st' := [.int y, .int x, .ref 117]) (I' := I) (J' := J) rfl ?_
  refine EV_cV (own := 12) (idx := 66) (μ' := mX12_isCell) (b := 117) (cb := 12) (av := [.int x, .int y]) (rest := []) C hR rfl (Or.inl ⟨892, by decide⟩) kX12_isCell sX12_isCell (c_X12_isCell g I J x y ) rfl rfl (by decide +kernel) rfl (by decide) (Nat.le_of_ble_eq_true rfl) rfl ⟨Nat.zero_le _, Nat.zero_le _⟩ ?_
  refine EV_if_ne (off := 6) (tgt := 12) C (by decide +kernel) (by decide) (fun h1 => ?_) (fun h1 => ?_)
  · skip
    have hc := tq_b10 h1
    have hxy := tr_cell.ix k.1 hc
    have hw10 := k.1.2.2.2.1
    have hh10 := k.1.2.2.2.2.2
    refine EV_lve (lv' := [some (.ref 117), some (.int (nI (tq_N x))), some (.int (nI (tq_N y)))]) (by rw [← tq_nIN hxy.1, ← tq_nIN hxy.2.1]) ?_
    refine EV_blk (own := 12) C rfl [(.aload_n 0, 0, 0, 0, 0), (.iload_n 1, 0, 0, 0, 0), (.iload_n 2, 0, 0, 0, 0)] (pc' := 15) (by decide +kernel) (lv' := [some (.ref 117), some (.int (nI (tq_N x))), some (.int (nI (tq_N y)))]) (st' := [.int (nI (tq_N y)), .int (nI (tq_N x)), .ref 117]) (I' := I) (J' := J) rfl ?_
    refine EV_cV (own := 12) (idx := 167) (μ' := mX12_isStaleAt) (b := 117) (cb := 12) (av := [.int (nI (tq_N x)), .int (nI (tq_N y))]) (rest := []) C hR rfl (Or.inl ⟨1185, by decide⟩) kX12_isStaleAt sX12_isStaleAt (c_X12_isStaleAt g I J (tq_N x) (tq_N y) w h (by omega) (by omega) k) rfl rfl (by decide +kernel) rfl (by decide) (Nat.le_of_ble_eq_true rfl) rfl ⟨Nat.zero_le _, Nat.zero_le _⟩ ?_
    refine EV_if_eq (off := 7) (tgt := 25) C (by decide +kernel) (by decide) (fun h2 => ?_) (fun h2 => ?_)
    · skip
      refine EV_blk (own := 12) C rfl [(.iconst 0, 0, 0, 0, (nI 0))] (pc' := 26) (by decide +kernel) (lv' := [some (.ref 117), some (.int (nI (tq_N x))), some (.int (nI (tq_N y)))]) (st' := [.int (nI 0)]) (I' := (I_X12_isStaleAt I (tq_N x) (tq_N y) w h)) (J' := J) rfl ?_
      exact EV_iret C hZ rfl (by decide +kernel) (Nat.le_refl _) (Nat.le_refl _) ⟨tq_some (by simp only [r_X12_isStale, if_neg h1, if_pos h2]), rfl, rfl, by simp only [I_X12_isStale, if_neg h1, if_pos h2], rfl⟩
    · skip
      refine EV_blk (own := 12) C rfl [(.iconst 1, 0, 0, 0, (nI 1)), (.goto 4, 0, 0, 0, 0)] (pc' := 26) (by decide +kernel) (lv' := [some (.ref 117), some (.int (nI (tq_N x))), some (.int (nI (tq_N y)))]) (st' := [.int (nI 1)]) (I' := (I_X12_isStaleAt I (tq_N x) (tq_N y) w h)) (J' := J) rfl ?_
      exact EV_iret C hZ rfl (by decide +kernel) (Nat.le_refl _) (Nat.le_refl _) ⟨tq_some (by simp only [r_X12_isStale, if_neg h1, if_neg h2]), rfl, rfl, by simp only [I_X12_isStale, if_neg h1, if_neg h2], rfl⟩
  · skip
    refine EV_blk (own := 12) C rfl [(.bipush (-2), 0, 0, 0, (-2))] (pc' := 11) (by decide +kernel) (lv' := [some (.ref 117), some (.int x), some (.int y)]) (st' := [.int (-2)]) (I' := I) (J' := J) rfl ?_
    exact EV_iret C hZ rfl (by decide +kernel) (Nat.le_refl _) (Nat.le_refl _) ⟨tq_some (by simp only [r_X12_isStale, if_pos h1]), rfl, rfl, by simp only [I_X12_isStale, if_pos h1], rfl⟩
theorem fr_X12_isStale (I : tq_I) (x y : Int32) (w h : Nat) {cz : Nat} (hc : cz ≠ 117 ∧ cz ≠ 124 ∧ cz ≠ 125 ∧ cz ≠ 126 ∧ cz ≠ 127) (jz : Nat) : I_X12_isStale I x y w h cz jz = I cz jz := by
  obtain ⟨hc0, hc1, hc2, hc3, hc4⟩ := hc
  simp only [I_X12_isStale]
  (repeat' split) <;> simp (disch := first | assumption | (simp only [ne_eq] at *; simp [*])) [tq_u, tq_cp, hc0, hc1, hc2, hc3, hc4, fr_X12_touches, fr_ta1, fr_X12_touchesAll, fr_cps1, fr_X12_copies, fr_sav, fr_bg1, fr_bg2, fr_X12_begins, fr_ly1, fr_X12_lays, fr_bgn1, fr_X12_begin, fr_X12_setCorner, fr_fi1, fr_X12_fill, fr_fg1, fr_X12_forgets, fr_rc1, fr_rc2, fr_X12_reaches, fr_mfl1, fr_X12_flood, fr_mrg1, fr_X12_regions, fr_mra1, fr_X12_raise, fr_sp1, fr_X12_setPath, fr_sr1, fr_sr2, fr_X12_setRank, fr_X12_becomes, fr_X12_setTiles, fr_X12_setVariants, fr_X12_setSeed, fr_X12_setBorder, fr_X12_makesUp, fr_X12_finds, fr_X12_parts, fr_put, fr_mfy2, fr_X12_findsLayers, fr_mfp1, fr_mfp2, fr_X12_findsPieces, fr_X12_layers, fr_X12_layer, fr_X12_pieces, fr_X12_piece, fr_X12_isStaleAt, fr_mpa1, fr_X12_paints]
def f_mto1 (I : tq_I)  (i : Nat) (a : Int32) : Int32 := (a + (I 118 (243 + i)))
set_option maxRecDepth 20000 in
theorem lp_mto1 {g : tq_G} {x0 : tq_X} (C : tq_C g mX12_touched x0) (hR : tq_ht x0 0 0 0) (I : tq_I) (J : Int64)   : ∀ (n i : Nat) (a : Int32), i + n = 100 → EV g mX12_touched x0 0 0 29 [some (.ref 117), some (.int (tq_it (f_mto1 I) n i a)), some (.int (nI (i + n)))] [] (tq_SC ++ tq_SR) tq_RR I J → EV g mX12_touched x0 0 0 4 [some (.ref 117), some (.int a), some (.int (nI i))] [] (tq_SC ++ tq_SR) tq_RR I J := by
  intro n
  induction n with
  | zero =>
    intro i a hi kk
    rw [Nat.add_zero] at kk
    refine EV_blk (own := 12) C rfl [(.iload_n 2, 0, 0, 0, 0), (.bipush 100, 0, 0, 0, (nI 100))] (pc' := 7) (by decide +kernel) (lv' := [some (.ref 117), some (.int a), some (.int (nI i))]) (st' := [.int (nI 100), .int (nI i)]) (I' := I) (J' := J) rfl ?_
    refine EV_icmp_ge (off := 22) (tgt := 29) C (by decide +kernel) (by decide) (fun h1 => ?_) (fun h1 => ?_)
    · skip
      exact kk
    · skip
      exact absurd h1 (by simp (disch := omega) only [Int32.lt_iff_toInt_lt, Int32.le_iff_toInt_le, Int32.toInt_zero, nI_toInt, tq_m1]; omega)
  | succ n ih =>
    intro i a hi kk
    rw [show i + (n + 1) = (i + 1) + n by omega] at kk
    refine EV_blk (own := 12) C rfl [(.iload_n 2, 0, 0, 0, 0), (.bipush 100, 0, 0, 0, (nI 100))] (pc' := 7) (by decide +kernel) (lv' := [some (.ref 117), some (.int a), some (.int (nI i))]) (st' := [.int (nI 100), .int (nI i)]) (I' := I) (J' := J) rfl ?_
    refine EV_icmp_ge (off := 22) (tgt := 29) C (by decide +kernel) (by decide) (fun h1 => ?_) (fun h1 => ?_)
    · skip
      exact absurd h1 (by simp (disch := omega) only [Int32.lt_iff_toInt_lt, Int32.le_iff_toInt_le, Int32.toInt_zero, nI_toInt, tq_m1]; omega)
    · skip
      refine EV_blk (own := 12) C rfl [(.iload_n 1, 0, 0, 0, 0), (.aload_n 0, 0, 0, 0, 0), (.getfield 7, 12, 0, 899, 0), (.sipush 243, 0, 0, 0, (nI 243)), (.iload_n 2, 0, 0, 0, 0), (.iadd, 0, 0, 0, 0)] (pc' := 20) (by decide +kernel) (lv' := [some (.ref 117), some (.int a), some (.int (nI i))]) (st' := [.int ((nI 243) + (nI i)), .ref 118, .int a]) (I' := I) (J' := J) rfl ?_
      refine EV_iald (j := (243 + i)) C (by decide +kernel) rfl (tq_toI (243 + i) (by simp (disch := omega) only [nI_add, tq_mul, tq_rem_nI, tq_div_nI, tq_sub_nI]) (by omega)) (by omega) ?_
      refine EV_blk (own := 12) C rfl [(.iadd, 0, 0, 0, 0), (.istore_n 1, 0, 0, 0, 0), (.iinc 2 1, 0, 0, 0, (nI 1)), (.goto (-22), 0, 0, 0, 0)] (pc' := 4) (by decide +kernel) (lv' := [some (.ref 117), some (.int (a + (I 118 (243 + i)))), some (.int ((nI i) + (nI 1)))]) (st' := []) (I' := I) (J' := J) rfl ?_
      rw [show ((nI i) + (nI 1)) = (nI (i + 1)) from by simp (disch := omega) only [nI_add, tq_mul] <;> exact congrArg nI (by omega)]
      rw [tq_its, show (f_mto1 I) i a = (a + (I 118 (243 + i))) from by simp only [f_mto1, if_neg h1]] at kk
      exact ih (i + 1) (a + (I 118 (243 + i))) (by omega) kk
def r_X12_touched (I : tq_I)  : Int32 := (tq_it (f_mto1 I) 100 0 (nI 0))
set_option maxRecDepth 20000 in
theorem c_X12_touched (g : tq_G) (I : tq_I) (J : Int64)   : CT g mX12_touched 0 0 0 [.ref 117] (tq_SC ++ tq_SR) tq_RR I J (tq_ret (tq_SC ++ tq_SR) tq_RR (some (.int (r_X12_touched I))) I J) := by
  refine CT.ret kX12_touched (Nat.le_of_ble_eq_true rfl) (fun x0 C hR hZ => ?_)
  refine EV_en (lv' := [some (.ref 117), none, none]) 2 rfl ?_
  refine EV_blk (own := 12) C rfl [(.iconst 0, 0, 0, 0, (nI 0)), (.istore_n 1, 0, 0, 0, 0), (.iconst 0, 0, 0, 0, (nI 0)), (.istore_n 2, 0, 0, 0, 0)] (pc' := 4) (by decide +kernel) (lv' := [some (.ref 117), some (.int (nI 0)), some (.int (nI 0))]) (st' := []) (I' := I) (J' := J) rfl ?_
  refine lp_mto1 C hR I J  100 0 (nI 0) (by omega) ?_
  refine EV_blk (own := 12) C rfl [(.iload_n 1, 0, 0, 0, 0)] (pc' := 30) (by decide +kernel) (lv' := [some (.ref 117), some (.int (tq_it (f_mto1 I) 100 0 (nI 0))), some (.int (nI ((0 + 100))))]) (st' := [.int (tq_it (f_mto1 I) 100 0 (nI 0))]) (I' := I) (J' := J) rfl ?_
  exact EV_iret C hZ rfl (by decide +kernel) (Nat.le_refl _) (Nat.le_refl _) ⟨tq_some (by simp only [r_X12_touched]), rfl, rfl, rfl, rfl⟩
def f_mst2 (w h : Nat) (i : Nat) (a : Int32 × tq_I) : Int32 × tq_I := (if (tq_b (tr_cell a.2 (nI (i % 10)) (nI (i / 10)))) = 0 then ((a.1 + (nI 0)), a.2) else (if (r_X12_isStaleAt a.2 (i % 10) (i / 10) w h) = 0 then ((a.1 + (nI 0)), (I_X12_isStaleAt a.2 (i % 10) (i / 10) w h)) else ((a.1 + (nI 1)), (I_X12_isStaleAt a.2 (i % 10) (i / 10) w h))))
set_option maxRecDepth 20000 in
theorem lp_mst2 {g : tq_G} {x0 : tq_X} (C : tq_C g mX12_stale x0) (hR : tq_ht x0 6 0 0) (J : Int64) (w h : Nat)  : ∀ (n i : Nat) (a : Int32 × tq_I), i + n = 100 → tr_bas a.2 w h → EV g mX12_stale x0 0 0 54 [some (.ref 117), some (.int ((tq_it (f_mst2 w h) n i a).1)), some (.int (nI (i + n)))] [] (tq_SC ++ tq_SR) tq_RR ((tq_it (f_mst2 w h) n i a).2) J → EV g mX12_stale x0 0 0 4 [some (.ref 117), some (.int a.1), some (.int (nI i))] [] (tq_SC ++ tq_SR) tq_RR a.2 J := by
  intro n
  induction n with
  | zero =>
    intro i a hi hI kk
    rw [Nat.add_zero] at kk
    refine EV_blk (own := 12) C rfl [(.iload_n 2, 0, 0, 0, 0), (.bipush 100, 0, 0, 0, (nI 100))] (pc' := 7) (by decide +kernel) (lv' := [some (.ref 117), some (.int a.1), some (.int (nI i))]) (st' := [.int (nI 100), .int (nI i)]) (I' := a.2) (J' := J) rfl ?_
    refine EV_icmp_ge (off := 47) (tgt := 54) C (by decide +kernel) (by decide) (fun h1 => ?_) (fun h1 => ?_)
    · skip
      exact kk
    · skip
      exact absurd h1 (by simp (disch := omega) only [Int32.lt_iff_toInt_lt, Int32.le_iff_toInt_le, Int32.toInt_zero, nI_toInt, tq_m1]; omega)
  | succ n ih =>
    intro i a hi hI kk
    rw [show i + (n + 1) = (i + 1) + n by omega] at kk
    refine EV_blk (own := 12) C rfl [(.iload_n 2, 0, 0, 0, 0), (.bipush 100, 0, 0, 0, (nI 100))] (pc' := 7) (by decide +kernel) (lv' := [some (.ref 117), some (.int a.1), some (.int (nI i))]) (st' := [.int (nI 100), .int (nI i)]) (I' := a.2) (J' := J) rfl ?_
    refine EV_icmp_ge (off := 47) (tgt := 54) C (by decide +kernel) (by decide) (fun h1 => ?_) (fun h1 => ?_)
    · skip
      exact absurd h1 (by simp (disch := omega) only [Int32.lt_iff_toInt_lt, Int32.le_iff_toInt_le, Int32.toInt_zero, nI_toInt, tq_m1]; omega)
    · skip
      refine EV_blk (own := 12) C rfl [(.iload_n 1, 0, 0, 0, 0), (.aload_n 0, 0, 0, 0, 0), (.iload_n 2, 0, 0, 0, 0), (.bipush 10, 0, 0, 0, (nI 10))] (pc' := 15) (by decide +kernel) (lv' := [some (.ref 117), some (.int a.1), some (.int (nI i))]) (st' := [.int (nI 10), .int (nI i), .ref 117, .int a.1]) (I' := a.2) (J' := J) rfl ?_
      refine EV_irem C (by decide +kernel) (by decide) ?_
      refine EV_blk (own := 12) C rfl [(.iload_n 2, 0, 0, 0, 0), (.bipush 10, 0, 0, 0, (nI 10))] (pc' := 19) (by decide +kernel) (lv' := [some (.ref 117), some (.int a.1), some (.int (nI i))]) (st' := [.int (nI 10), .int (nI i), .int (tq_rem (nI i) (nI 10)), .ref 117, .int a.1]) (I' := a.2) (J' := J) rfl ?_
      refine EV_idiv C (by decide +kernel) (by decide) ?_
      rw [show ((nI i) / (nI 10)) = (nI (i / 10)) from by simp (disch := omega) only [nI_add, tq_mul, tq_rem_nI, tq_div_nI, tq_sub_nI]]
      rw [show (tq_rem (nI i) (nI 10)) = (nI (i % 10)) from by simp (disch := omega) only [nI_add, tq_mul, tq_rem_nI, tq_div_nI, tq_sub_nI]]
      refine EV_cV (own := 12) (idx := 66) (μ' := mX12_isCell) (b := 117) (cb := 12) (av := [.int (nI (i % 10)), .int (nI (i / 10))]) (rest := [.int a.1]) C hR rfl (Or.inl ⟨892, by decide⟩) kX12_isCell sX12_isCell (c_X12_isCell g a.2 J (nI (i % 10)) (nI (i / 10)) ) rfl rfl (by decide +kernel) rfl (by decide) (Nat.le_of_ble_eq_true rfl) rfl ⟨Nat.zero_le _, Nat.zero_le _⟩ ?_
      refine EV_if_eq (off := 22) (tgt := 45) C (by decide +kernel) (by decide) (fun h2 => ?_) (fun h2 => ?_)
      · skip
        refine EV_blk (own := 12) C rfl [(.iconst 0, 0, 0, 0, (nI 0)), (.iadd, 0, 0, 0, 0), (.istore_n 1, 0, 0, 0, 0), (.iinc 2 1, 0, 0, 0, (nI 1)), (.goto (-47), 0, 0, 0, 0)] (pc' := 4) (by decide +kernel) (lv' := [some (.ref 117), some (.int (a.1 + (nI 0))), some (.int ((nI i) + (nI 1)))]) (st' := []) (I' := a.2) (J' := J) rfl ?_
        rw [show ((nI i) + (nI 1)) = (nI (i + 1)) from by simp (disch := omega) only [nI_add, tq_mul] <;> exact congrArg nI (by omega)]
        rw [tq_its, show (f_mst2 w h) i a = ((a.1 + (nI 0)), a.2) from by simp only [f_mst2, if_neg h1, if_pos h2]] at kk
        have ihx := ih (i + 1) ((a.1 + (nI 0)), a.2) (by omega)
        dsimp only at ihx
        exact ihx hI kk
      · skip
        refine EV_blk (own := 12) C rfl [(.aload_n 0, 0, 0, 0, 0), (.iload_n 2, 0, 0, 0, 0), (.bipush 10, 0, 0, 0, (nI 10))] (pc' := 30) (by decide +kernel) (lv' := [some (.ref 117), some (.int a.1), some (.int (nI i))]) (st' := [.int (nI 10), .int (nI i), .ref 117, .int a.1]) (I' := a.2) (J' := J) rfl ?_
        refine EV_irem C (by decide +kernel) (by decide) ?_
        refine EV_blk (own := 12) C rfl [(.iload_n 2, 0, 0, 0, 0), (.bipush 10, 0, 0, 0, (nI 10))] (pc' := 34) (by decide +kernel) (lv' := [some (.ref 117), some (.int a.1), some (.int (nI i))]) (st' := [.int (nI 10), .int (nI i), .int (tq_rem (nI i) (nI 10)), .ref 117, .int a.1]) (I' := a.2) (J' := J) rfl ?_
        refine EV_idiv C (by decide +kernel) (by decide) ?_
        rw [show ((nI i) / (nI 10)) = (nI (i / 10)) from by simp (disch := omega) only [nI_add, tq_mul, tq_rem_nI, tq_div_nI, tq_sub_nI]]
        rw [show (tq_rem (nI i) (nI 10)) = (nI (i % 10)) from by simp (disch := omega) only [nI_add, tq_mul, tq_rem_nI, tq_div_nI, tq_sub_nI]]
        refine EV_cV (own := 12) (idx := 167) (μ' := mX12_isStaleAt) (b := 117) (cb := 12) (av := [.int (nI (i % 10)), .int (nI (i / 10))]) (rest := [.int a.1]) C hR rfl (Or.inl ⟨1185, by decide⟩) kX12_isStaleAt sX12_isStaleAt (c_X12_isStaleAt g a.2 J (i % 10) (i / 10) w h (by omega) (by omega) hI) rfl rfl (by decide +kernel) rfl (by decide) (Nat.le_of_ble_eq_true rfl) rfl ⟨Nat.zero_le _, Nat.zero_le _⟩ ?_
        refine EV_if_eq (off := 7) (tgt := 45) C (by decide +kernel) (by decide) (fun h3 => ?_) (fun h3 => ?_)
        · skip
          refine EV_blk (own := 12) C rfl [(.iconst 0, 0, 0, 0, (nI 0)), (.iadd, 0, 0, 0, 0), (.istore_n 1, 0, 0, 0, 0), (.iinc 2 1, 0, 0, 0, (nI 1)), (.goto (-47), 0, 0, 0, 0)] (pc' := 4) (by decide +kernel) (lv' := [some (.ref 117), some (.int (a.1 + (nI 0))), some (.int ((nI i) + (nI 1)))]) (st' := []) (I' := (I_X12_isStaleAt a.2 (i % 10) (i / 10) w h)) (J' := J) rfl ?_
          rw [show ((nI i) + (nI 1)) = (nI (i + 1)) from by simp (disch := omega) only [nI_add, tq_mul] <;> exact congrArg nI (by omega)]
          rw [tq_its, show (f_mst2 w h) i a = ((a.1 + (nI 0)), (I_X12_isStaleAt a.2 (i % 10) (i / 10) w h)) from by simp only [f_mst2, if_neg h1, if_neg h2, if_pos h3]] at kk
          have ihx := ih (i + 1) ((a.1 + (nI 0)), (I_X12_isStaleAt a.2 (i % 10) (i / 10) w h)) (by omega)
          dsimp only at ihx
          exact ihx hI.stl kk
        · skip
          refine EV_blk (own := 12) C rfl [(.iconst 1, 0, 0, 0, (nI 1)), (.goto 4, 0, 0, 0, 0), (.iadd, 0, 0, 0, 0), (.istore_n 1, 0, 0, 0, 0), (.iinc 2 1, 0, 0, 0, (nI 1)), (.goto (-47), 0, 0, 0, 0)] (pc' := 4) (by decide +kernel) (lv' := [some (.ref 117), some (.int (a.1 + (nI 1))), some (.int ((nI i) + (nI 1)))]) (st' := []) (I' := (I_X12_isStaleAt a.2 (i % 10) (i / 10) w h)) (J' := J) rfl ?_
          rw [show ((nI i) + (nI 1)) = (nI (i + 1)) from by simp (disch := omega) only [nI_add, tq_mul] <;> exact congrArg nI (by omega)]
          rw [tq_its, show (f_mst2 w h) i a = ((a.1 + (nI 1)), (I_X12_isStaleAt a.2 (i % 10) (i / 10) w h)) from by simp only [f_mst2, if_neg h1, if_neg h2, if_neg h3]] at kk
          have ihx := ih (i + 1) ((a.1 + (nI 1)), (I_X12_isStaleAt a.2 (i % 10) (i / 10) w h)) (by omega)
          dsimp only at ihx
          exact ihx hI.stl kk
theorem fr_mst2 (w h : Nat) {cz : Nat} (hc : cz ≠ 117 ∧ cz ≠ 124 ∧ cz ≠ 125 ∧ cz ≠ 126 ∧ cz ≠ 127) (n i : Nat) (a : Int32 × tq_I) (jz : Nat) : (tq_it (f_mst2 w h) n i a).2 cz jz = a.2 cz jz := by
  obtain ⟨hc0, hc1, hc2, hc3, hc4⟩ := hc
  refine tq_itF2 (fun i a j => ?_) n i a jz
  simp only [f_mst2]
  (repeat' split) <;> simp (disch := first | assumption | (simp only [ne_eq] at *; simp [*])) [tq_u, tq_cp, hc0, hc1, hc2, hc3, hc4, fr_X12_touches, fr_ta1, fr_X12_touchesAll, fr_cps1, fr_X12_copies, fr_sav, fr_bg1, fr_bg2, fr_X12_begins, fr_ly1, fr_X12_lays, fr_bgn1, fr_X12_begin, fr_X12_setCorner, fr_fi1, fr_X12_fill, fr_fg1, fr_X12_forgets, fr_rc1, fr_rc2, fr_X12_reaches, fr_mfl1, fr_X12_flood, fr_mrg1, fr_X12_regions, fr_mra1, fr_X12_raise, fr_sp1, fr_X12_setPath, fr_sr1, fr_sr2, fr_X12_setRank, fr_X12_becomes, fr_X12_setTiles, fr_X12_setVariants, fr_X12_setSeed, fr_X12_setBorder, fr_X12_makesUp, fr_X12_finds, fr_X12_parts, fr_put, fr_mfy2, fr_X12_findsLayers, fr_mfp1, fr_mfp2, fr_X12_findsPieces, fr_X12_layers, fr_X12_layer, fr_X12_pieces, fr_X12_piece, fr_X12_isStaleAt, fr_mpa1, fr_X12_paints, fr_X12_isStale]
def r_X12_stale (I : tq_I)  (w h : Nat) : Int32 := (tq_it (f_mst2 w h) 100 0 ((nI 0), I)).1
def I_X12_stale (I : tq_I)  (w h : Nat) : tq_I := (tq_it (f_mst2 w h) 100 0 ((nI 0), I)).2
set_option maxRecDepth 20000 in
theorem c_X12_stale (g : tq_G) (I : tq_I) (J : Int64)  (w h : Nat) (k : tr_bas I w h)  : CT g mX12_stale 6 0 0 [.ref 117] (tq_SC ++ tq_SR) tq_RR I J (tq_ret (tq_SC ++ tq_SR) tq_RR (some (.int (r_X12_stale I w h))) (I_X12_stale I w h) J) := by
  refine CT.ret kX12_stale (Nat.le_of_ble_eq_true rfl) (fun x0 C hR hZ => ?_)
  refine EV_en (lv' := [some (.ref 117), none, none]) 2 rfl ?_
  refine EV_blk (own := 12) C rfl [(.iconst 0, 0, 0, 0, (nI 0)), (.istore_n 1, 0, 0, 0, 0), (.iconst 0, 0, 0, 0, (nI 0)), (.istore_n 2, 0, 0, 0, 0)] (pc' := 4) (by decide +kernel) (lv' := [some (.ref 117), some (.int (nI 0)), some (.int (nI 0))]) (st' := []) (I' := I) (J' := J) rfl ?_
  have hlp := lp_mst2 (g := g) C hR J w h  100 0 ((nI 0), I)
  dsimp only at hlp
  refine hlp (by omega) k ?_
  clear hlp
  refine EV_blk (own := 12) C rfl [(.iload_n 1, 0, 0, 0, 0)] (pc' := 55) (by decide +kernel) (lv' := [some (.ref 117), some (.int ((tq_it (f_mst2 w h) 100 0 ((nI 0), I)).1)), some (.int (nI ((0 + 100))))]) (st' := [.int ((tq_it (f_mst2 w h) 100 0 ((nI 0), I)).1)]) (I' := (tq_it (f_mst2 w h) 100 0 ((nI 0), I)).2) (J' := J) rfl ?_
  exact EV_iret C hZ rfl (by decide +kernel) (Nat.le_refl _) (Nat.le_refl _) ⟨tq_some (by simp only [r_X12_stale]), rfl, rfl, by simp only [I_X12_stale], rfl⟩
theorem fr_X12_stale (I : tq_I)  (w h : Nat) {cz : Nat} (hc : cz ≠ 117 ∧ cz ≠ 124 ∧ cz ≠ 125 ∧ cz ≠ 126 ∧ cz ≠ 127) (jz : Nat) : I_X12_stale I w h cz jz = I cz jz := by
  obtain ⟨hc0, hc1, hc2, hc3, hc4⟩ := hc
  simp only [I_X12_stale]
  (repeat' split) <;> simp (disch := first | assumption | (simp only [ne_eq] at *; simp [*])) [tq_u, tq_cp, hc0, hc1, hc2, hc3, hc4, fr_X12_touches, fr_ta1, fr_X12_touchesAll, fr_cps1, fr_X12_copies, fr_sav, fr_bg1, fr_bg2, fr_X12_begins, fr_ly1, fr_X12_lays, fr_bgn1, fr_X12_begin, fr_X12_setCorner, fr_fi1, fr_X12_fill, fr_fg1, fr_X12_forgets, fr_rc1, fr_rc2, fr_X12_reaches, fr_mfl1, fr_X12_flood, fr_mrg1, fr_X12_regions, fr_mra1, fr_X12_raise, fr_sp1, fr_X12_setPath, fr_sr1, fr_sr2, fr_X12_setRank, fr_X12_becomes, fr_X12_setTiles, fr_X12_setVariants, fr_X12_setSeed, fr_X12_setBorder, fr_X12_makesUp, fr_X12_finds, fr_X12_parts, fr_put, fr_mfy2, fr_X12_findsLayers, fr_mfp1, fr_mfp2, fr_X12_findsPieces, fr_X12_layers, fr_X12_layer, fr_X12_pieces, fr_X12_piece, fr_X12_isStaleAt, fr_mpa1, fr_X12_paints, fr_X12_isStale, fr_mst2]
def f_mpt1 (w h : Nat) (i : Nat) (a : Int32 × tq_I) : Int32 × tq_I := (if (a.2 118 (243 + i)) = (nI 1) then ((a.1 + (r_X12_paints a.2 (i % 10) (i / 10) w h)), (I_X12_paints a.2 (i % 10) (i / 10) w h)) else ((a.1 + (nI 0)), a.2))
set_option maxRecDepth 20000 in
theorem lp_mpt1 {g : tq_G} {x0 : tq_X} (C : tq_C g mX12_paint x0) (hR : tq_ht x0 7 0 0) (J : Int64) (w h : Nat)  : ∀ (n i : Nat) (a : Int32 × tq_I), i + n = 100 → tr_bas a.2 w h → EV g mX12_paint x0 0 0 53 [some (.ref 117), some (.int ((tq_it (f_mpt1 w h) n i a).1)), some (.int (nI (i + n)))] [] (tq_SC ++ tq_SR) tq_RR ((tq_it (f_mpt1 w h) n i a).2) J → EV g mX12_paint x0 0 0 8 [some (.ref 117), some (.int a.1), some (.int (nI i))] [] (tq_SC ++ tq_SR) tq_RR a.2 J := by
  intro n
  induction n with
  | zero =>
    intro i a hi hI kk
    rw [Nat.add_zero] at kk
    refine EV_blk (own := 12) C rfl [(.iload_n 2, 0, 0, 0, 0), (.bipush 100, 0, 0, 0, (nI 100))] (pc' := 11) (by decide +kernel) (lv' := [some (.ref 117), some (.int a.1), some (.int (nI i))]) (st' := [.int (nI 100), .int (nI i)]) (I' := a.2) (J' := J) rfl ?_
    refine EV_icmp_ge (off := 42) (tgt := 53) C (by decide +kernel) (by decide) (fun h1 => ?_) (fun h1 => ?_)
    · skip
      exact kk
    · skip
      exact absurd h1 (by simp (disch := omega) only [Int32.lt_iff_toInt_lt, Int32.le_iff_toInt_le, Int32.toInt_zero, nI_toInt, tq_m1]; omega)
  | succ n ih =>
    intro i a hi hI kk
    rw [show i + (n + 1) = (i + 1) + n by omega] at kk
    refine EV_blk (own := 12) C rfl [(.iload_n 2, 0, 0, 0, 0), (.bipush 100, 0, 0, 0, (nI 100))] (pc' := 11) (by decide +kernel) (lv' := [some (.ref 117), some (.int a.1), some (.int (nI i))]) (st' := [.int (nI 100), .int (nI i)]) (I' := a.2) (J' := J) rfl ?_
    refine EV_icmp_ge (off := 42) (tgt := 53) C (by decide +kernel) (by decide) (fun h1 => ?_) (fun h1 => ?_)
    · skip
      exact absurd h1 (by simp (disch := omega) only [Int32.lt_iff_toInt_lt, Int32.le_iff_toInt_le, Int32.toInt_zero, nI_toInt, tq_m1]; omega)
    · skip
      refine EV_blk (own := 12) C rfl [(.iload_n 1, 0, 0, 0, 0), (.aload_n 0, 0, 0, 0, 0), (.getfield 7, 12, 0, 899, 0), (.sipush 243, 0, 0, 0, (nI 243)), (.iload_n 2, 0, 0, 0, 0), (.iadd, 0, 0, 0, 0)] (pc' := 24) (by decide +kernel) (lv' := [some (.ref 117), some (.int a.1), some (.int (nI i))]) (st' := [.int ((nI 243) + (nI i)), .ref 118, .int a.1]) (I' := a.2) (J' := J) rfl ?_
      refine EV_iald (j := (243 + i)) C (by decide +kernel) rfl (tq_toI (243 + i) (by simp (disch := omega) only [nI_add, tq_mul, tq_rem_nI, tq_div_nI, tq_sub_nI]) (by omega)) (by omega) ?_
      refine EV_blk (own := 12) C rfl [(.iconst 1, 0, 0, 0, (nI 1))] (pc' := 26) (by decide +kernel) (lv' := [some (.ref 117), some (.int a.1), some (.int (nI i))]) (st' := [.int (nI 1), .int (a.2 118 (243 + i)), .int a.1]) (I' := a.2) (J' := J) rfl ?_
      refine EV_icmp_ne (off := 18) (tgt := 44) C (by decide +kernel) (by decide) (fun h2 => ?_) (fun h2 => ?_)
      · skip
        refine EV_blk (own := 12) C rfl [(.iconst 0, 0, 0, 0, (nI 0)), (.iadd, 0, 0, 0, 0), (.istore_n 1, 0, 0, 0, 0), (.iinc 2 1, 0, 0, 0, (nI 1)), (.goto (-42), 0, 0, 0, 0)] (pc' := 8) (by decide +kernel) (lv' := [some (.ref 117), some (.int (a.1 + (nI 0))), some (.int ((nI i) + (nI 1)))]) (st' := []) (I' := a.2) (J' := J) rfl ?_
        rw [show ((nI i) + (nI 1)) = (nI (i + 1)) from by simp (disch := omega) only [nI_add, tq_mul] <;> exact congrArg nI (by omega)]
        rw [tq_its, show (f_mpt1 w h) i a = ((a.1 + (nI 0)), a.2) from by simp only [f_mpt1, if_neg h1, if_neg h2]] at kk
        have ihx := ih (i + 1) ((a.1 + (nI 0)), a.2) (by omega)
        dsimp only at ihx
        exact ihx hI kk
      · skip
        refine EV_blk (own := 12) C rfl [(.aload_n 0, 0, 0, 0, 0), (.iload_n 2, 0, 0, 0, 0), (.bipush 10, 0, 0, 0, (nI 10))] (pc' := 33) (by decide +kernel) (lv' := [some (.ref 117), some (.int a.1), some (.int (nI i))]) (st' := [.int (nI 10), .int (nI i), .ref 117, .int a.1]) (I' := a.2) (J' := J) rfl ?_
        refine EV_irem C (by decide +kernel) (by decide) ?_
        refine EV_blk (own := 12) C rfl [(.iload_n 2, 0, 0, 0, 0), (.bipush 10, 0, 0, 0, (nI 10))] (pc' := 37) (by decide +kernel) (lv' := [some (.ref 117), some (.int a.1), some (.int (nI i))]) (st' := [.int (nI 10), .int (nI i), .int (tq_rem (nI i) (nI 10)), .ref 117, .int a.1]) (I' := a.2) (J' := J) rfl ?_
        refine EV_idiv C (by decide +kernel) (by decide) ?_
        rw [show ((nI i) / (nI 10)) = (nI (i / 10)) from by simp (disch := omega) only [nI_add, tq_mul, tq_rem_nI, tq_div_nI, tq_sub_nI]]
        rw [show (tq_rem (nI i) (nI 10)) = (nI (i % 10)) from by simp (disch := omega) only [nI_add, tq_mul, tq_rem_nI, tq_div_nI, tq_sub_nI]]
        refine EV_cV (own := 12) (idx := 170) (μ' := mX12_paints) (b := 117) (cb := 12) (av := [.int (nI (i % 10)), .int (nI (i / 10))]) (rest := [.int a.1]) C hR rfl (Or.inl ⟨1201, by decide⟩) kX12_paints sX12_paints (c_X12_paints g a.2 J (i % 10) (i / 10) w h (by omega) (by omega) hI) rfl rfl (by decide +kernel) rfl (by decide) (Nat.le_of_ble_eq_true rfl) rfl ⟨Nat.zero_le _, Nat.zero_le _⟩ ?_
        refine EV_blk (own := 12) C rfl [(.goto 4, 0, 0, 0, 0), (.iadd, 0, 0, 0, 0), (.istore_n 1, 0, 0, 0, 0), (.iinc 2 1, 0, 0, 0, (nI 1)), (.goto (-42), 0, 0, 0, 0)] (pc' := 8) (by decide +kernel) (lv' := [some (.ref 117), some (.int (a.1 + (r_X12_paints a.2 (i % 10) (i / 10) w h))), some (.int ((nI i) + (nI 1)))]) (st' := []) (I' := (I_X12_paints a.2 (i % 10) (i / 10) w h)) (J' := J) rfl ?_
        rw [show ((nI i) + (nI 1)) = (nI (i + 1)) from by simp (disch := omega) only [nI_add, tq_mul] <;> exact congrArg nI (by omega)]
        rw [tq_its, show (f_mpt1 w h) i a = ((a.1 + (r_X12_paints a.2 (i % 10) (i / 10) w h)), (I_X12_paints a.2 (i % 10) (i / 10) w h)) from by simp only [f_mpt1, if_neg h1, if_pos h2]] at kk
        have ihx := ih (i + 1) ((a.1 + (r_X12_paints a.2 (i % 10) (i / 10) w h)), (I_X12_paints a.2 (i % 10) (i / 10) w h)) (by omega)
        dsimp only at ihx
        exact ihx hI.paints kk
theorem fr_mpt1 (w h : Nat) {cz : Nat} (hc : cz ≠ 117 ∧ cz ≠ 118 ∧ cz ≠ 124 ∧ cz ≠ 125 ∧ cz ≠ 126 ∧ cz ≠ 127) (n i : Nat) (a : Int32 × tq_I) (jz : Nat) : (tq_it (f_mpt1 w h) n i a).2 cz jz = a.2 cz jz := by
  obtain ⟨hc0, hc1, hc2, hc3, hc4, hc5⟩ := hc
  refine tq_itF2 (fun i a j => ?_) n i a jz
  simp only [f_mpt1]
  (repeat' split) <;> simp (disch := first | assumption | (simp only [ne_eq] at *; simp [*])) [tq_u, tq_cp, hc0, hc1, hc2, hc3, hc4, hc5, fr_X12_touches, fr_ta1, fr_X12_touchesAll, fr_cps1, fr_X12_copies, fr_sav, fr_bg1, fr_bg2, fr_X12_begins, fr_ly1, fr_X12_lays, fr_bgn1, fr_X12_begin, fr_X12_setCorner, fr_fi1, fr_X12_fill, fr_fg1, fr_X12_forgets, fr_rc1, fr_rc2, fr_X12_reaches, fr_mfl1, fr_X12_flood, fr_mrg1, fr_X12_regions, fr_mra1, fr_X12_raise, fr_sp1, fr_X12_setPath, fr_sr1, fr_sr2, fr_X12_setRank, fr_X12_becomes, fr_X12_setTiles, fr_X12_setVariants, fr_X12_setSeed, fr_X12_setBorder, fr_X12_makesUp, fr_X12_finds, fr_X12_parts, fr_put, fr_mfy2, fr_X12_findsLayers, fr_mfp1, fr_mfp2, fr_X12_findsPieces, fr_X12_layers, fr_X12_layer, fr_X12_pieces, fr_X12_piece, fr_X12_isStaleAt, fr_mpa1, fr_X12_paints, fr_X12_isStale, fr_mst2, fr_X12_stale]
def r_X12_paint (I : tq_I) (s : Nat) (w h : Nat) : Int32 := (tq_it (f_mpt1 w h) 100 0 ((nI 0), (tr_sav I s))).1
def I_X12_paint (I : tq_I) (s : Nat) (w h : Nat) : tq_I := (tq_it (f_mpt1 w h) 100 0 ((nI 0), (tr_sav I s))).2
set_option maxRecDepth 20000 in
theorem c_X12_paint (g : tq_G) (I : tq_I) (J : Int64) (s : Nat) (w h : Nat) (k : tr_bas I w h) (hs : I 117 1 = nI s) (hs5 : s ≤ 5) : CT g mX12_paint 7 0 0 [.ref 117] (tq_SC ++ tq_SR) tq_RR I J (tq_ret (tq_SC ++ tq_SR) tq_RR (some (.int (r_X12_paint I s w h))) (I_X12_paint I s w h) J) := by
  refine CT.ret kX12_paint (Nat.le_of_ble_eq_true rfl) (fun x0 C hR hZ => ?_)
  refine EV_en (lv' := [some (.ref 117), none, none]) 2 rfl ?_
  refine EV_blk (own := 12) C rfl [(.aload_n 0, 0, 0, 0, 0)] (pc' := 1) (by decide +kernel) (lv' := [some (.ref 117), none, none]) (st' := [.ref 117]) (I' := I) (J' := J) rfl ?_
  refine EV_cV (own := 12) (idx := 84) (μ' := mX12_saves) (b := 117) (cb := 12) (av := []) (rest := []) C hR rfl (Or.inl ⟨986, by decide⟩) kX12_saves sX12_saves (c_saves g I J s hs hs5) rfl rfl (by decide +kernel) rfl (by decide) (Nat.le_of_ble_eq_true rfl) rfl ⟨Nat.zero_le _, Nat.zero_le _⟩ ?_
  refine EV_blk (own := 12) C rfl [(.iconst 0, 0, 0, 0, (nI 0)), (.istore_n 1, 0, 0, 0, 0), (.iconst 0, 0, 0, 0, (nI 0)), (.istore_n 2, 0, 0, 0, 0)] (pc' := 8) (by decide +kernel) (lv' := [some (.ref 117), some (.int (nI 0)), some (.int (nI 0))]) (st' := []) (I' := (tr_sav I s)) (J' := J) rfl ?_
  have hlp := lp_mpt1 (g := g) C hR J w h  100 0 ((nI 0), (tr_sav I s))
  dsimp only at hlp
  refine hlp (by omega) k.sav ?_
  clear hlp
  refine EV_blk (own := 12) C rfl [(.iload_n 1, 0, 0, 0, 0)] (pc' := 54) (by decide +kernel) (lv' := [some (.ref 117), some (.int ((tq_it (f_mpt1 w h) 100 0 ((nI 0), (tr_sav I s))).1)), some (.int (nI ((0 + 100))))]) (st' := [.int ((tq_it (f_mpt1 w h) 100 0 ((nI 0), (tr_sav I s))).1)]) (I' := (tq_it (f_mpt1 w h) 100 0 ((nI 0), (tr_sav I s))).2) (J' := J) rfl ?_
  exact EV_iret C hZ rfl (by decide +kernel) (Nat.le_refl _) (Nat.le_refl _) ⟨tq_some (by simp only [r_X12_paint]), rfl, rfl, by simp only [I_X12_paint], rfl⟩
theorem fr_X12_paint (I : tq_I) (s : Nat) (w h : Nat) {cz : Nat} (hc : cz ≠ 117 ∧ cz ≠ 118 ∧ cz ≠ 124 ∧ cz ≠ 125 ∧ cz ≠ 126 ∧ cz ≠ 127) (jz : Nat) : I_X12_paint I s w h cz jz = I cz jz := by
  obtain ⟨hc0, hc1, hc2, hc3, hc4, hc5⟩ := hc
  simp only [I_X12_paint]
  (repeat' split) <;> simp (disch := first | assumption | (simp only [ne_eq] at *; simp [*])) [tq_u, tq_cp, hc0, hc1, hc2, hc3, hc4, hc5, fr_X12_touches, fr_ta1, fr_X12_touchesAll, fr_cps1, fr_X12_copies, fr_sav, fr_bg1, fr_bg2, fr_X12_begins, fr_ly1, fr_X12_lays, fr_bgn1, fr_X12_begin, fr_X12_setCorner, fr_fi1, fr_X12_fill, fr_fg1, fr_X12_forgets, fr_rc1, fr_rc2, fr_X12_reaches, fr_mfl1, fr_X12_flood, fr_mrg1, fr_X12_regions, fr_mra1, fr_X12_raise, fr_sp1, fr_X12_setPath, fr_sr1, fr_sr2, fr_X12_setRank, fr_X12_becomes, fr_X12_setTiles, fr_X12_setVariants, fr_X12_setSeed, fr_X12_setBorder, fr_X12_makesUp, fr_X12_finds, fr_X12_parts, fr_put, fr_mfy2, fr_X12_findsLayers, fr_mfp1, fr_mfp2, fr_X12_findsPieces, fr_X12_layers, fr_X12_layer, fr_X12_pieces, fr_X12_piece, fr_X12_isStaleAt, fr_mpa1, fr_X12_paints, fr_X12_isStale, fr_mst2, fr_X12_stale, fr_mpt1]
def r_X12_paintCell (I : tq_I) (x y : Int32) (s : Nat) (w h : Nat) : Int32 := (if (tq_b (tr_cell I x y)) = 0 then (-2) else (r_X12_paints (tr_sav I s) (tq_N x) (tq_N y) w h))
def I_X12_paintCell (I : tq_I) (x y : Int32) (s : Nat) (w h : Nat) : tq_I := (if (tq_b (tr_cell I x y)) = 0 then I else (I_X12_paints (tr_sav I s) (tq_N x) (tq_N y) w h))
set_option maxRecDepth 20000 in
theorem c_X12_paintCell (g : tq_G) (I : tq_I) (J : Int64) (x y : Int32) (s : Nat) (w h : Nat) (k : tr_bas I w h) (hs : I 117 1 = nI s) (hs5 : s ≤ 5) : CT g mX12_paintCell 7 0 0 [.ref 117, .int x, .int y] (tq_SC ++ tq_SR) tq_RR I J (tq_ret (tq_SC ++ tq_SR) tq_RR (some (.int (r_X12_paintCell I x y s w h))) (I_X12_paintCell I x y s w h) J) := by
  refine CT.ret kX12_paintCell (Nat.le_of_ble_eq_true rfl) (fun x0 C hR hZ => ?_)
  refine EV_en (lv' := [some (.ref 117), some (.int x), some (.int y)]) 0 rfl ?_
  refine EV_blk (own := 12) C rfl [(.aload_n 0, 0, 0, 0, 0), (.iload_n 1, 0, 0, 0, 0), (.iload_n 2, 0, 0, 0, 0)] (pc' := 3) (by decide +kernel) (lv' := [some (.ref 117), some (.int x), some (.int y)]) (st' := [.int y, .int x, .ref 117]) (I' := I) (J' := J) rfl ?_
  refine EV_cV (own := 12) (idx := 66) (μ' := mX12_isCell) (b := 117) (cb := 12) (av := [.int x, .int y]) (rest := []) C hR rfl (Or.inl ⟨892, by decide⟩) kX12_isCell sX12_isCell (c_X12_isCell g I J x y ) rfl rfl (by decide +kernel) rfl (by decide) (Nat.le_of_ble_eq_true rfl) rfl ⟨Nat.zero_le _, Nat.zero_le _⟩ ?_
  refine EV_if_ne (off := 6) (tgt := 12) C (by decide +kernel) (by decide) (fun h1 => ?_) (fun h1 => ?_)
  · skip
    have hc := tq_b10 h1
    have hxy := tr_cell.ix k.1 hc
    have hw10 := k.1.2.2.2.1
    have hh10 := k.1.2.2.2.2.2
    refine EV_lve (lv' := [some (.ref 117), some (.int (nI (tq_N x))), some (.int (nI (tq_N y)))]) (by rw [← tq_nIN hxy.1, ← tq_nIN hxy.2.1]) ?_
    refine EV_blk (own := 12) C rfl [(.aload_n 0, 0, 0, 0, 0)] (pc' := 13) (by decide +kernel) (lv' := [some (.ref 117), some (.int (nI (tq_N x))), some (.int (nI (tq_N y)))]) (st' := [.ref 117]) (I' := I) (J' := J) rfl ?_
    refine EV_cV (own := 12) (idx := 84) (μ' := mX12_saves) (b := 117) (cb := 12) (av := []) (rest := []) C hR rfl (Or.inl ⟨986, by decide⟩) kX12_saves sX12_saves (c_saves g I J s hs hs5) rfl rfl (by decide +kernel) rfl (by decide) (Nat.le_of_ble_eq_true rfl) rfl ⟨Nat.zero_le _, Nat.zero_le _⟩ ?_
    refine EV_blk (own := 12) C rfl [(.aload_n 0, 0, 0, 0, 0), (.iload_n 1, 0, 0, 0, 0), (.iload_n 2, 0, 0, 0, 0)] (pc' := 19) (by decide +kernel) (lv' := [some (.ref 117), some (.int (nI (tq_N x))), some (.int (nI (tq_N y)))]) (st' := [.int (nI (tq_N y)), .int (nI (tq_N x)), .ref 117]) (I' := (tr_sav I s)) (J' := J) rfl ?_
    refine EV_cV (own := 12) (idx := 170) (μ' := mX12_paints) (b := 117) (cb := 12) (av := [.int (nI (tq_N x)), .int (nI (tq_N y))]) (rest := []) C hR rfl (Or.inl ⟨1201, by decide⟩) kX12_paints sX12_paints (c_X12_paints g (tr_sav I s) J (tq_N x) (tq_N y) w h (by omega) (by omega) k.sav) rfl rfl (by decide +kernel) rfl (by decide) (Nat.le_of_ble_eq_true rfl) rfl ⟨Nat.zero_le _, Nat.zero_le _⟩ ?_
    exact EV_iret C hZ rfl (by decide +kernel) (Nat.le_refl _) (Nat.le_refl _) ⟨tq_some (by simp only [r_X12_paintCell, if_neg h1]), rfl, rfl, by simp only [I_X12_paintCell, if_neg h1], rfl⟩
  · skip
    refine EV_blk (own := 12) C rfl [(.bipush (-2), 0, 0, 0, (-2))] (pc' := 11) (by decide +kernel) (lv' := [some (.ref 117), some (.int x), some (.int y)]) (st' := [.int (-2)]) (I' := I) (J' := J) rfl ?_
    exact EV_iret C hZ rfl (by decide +kernel) (Nat.le_refl _) (Nat.le_refl _) ⟨tq_some (by simp only [r_X12_paintCell, if_pos h1]), rfl, rfl, by simp only [I_X12_paintCell, if_pos h1], rfl⟩
theorem fr_X12_paintCell (I : tq_I) (x y : Int32) (s : Nat) (w h : Nat) {cz : Nat} (hc : cz ≠ 117 ∧ cz ≠ 118 ∧ cz ≠ 124 ∧ cz ≠ 125 ∧ cz ≠ 126 ∧ cz ≠ 127) (jz : Nat) : I_X12_paintCell I x y s w h cz jz = I cz jz := by
  obtain ⟨hc0, hc1, hc2, hc3, hc4, hc5⟩ := hc
  simp only [I_X12_paintCell]
  (repeat' split) <;> simp (disch := first | assumption | (simp only [ne_eq] at *; simp [*])) [tq_u, tq_cp, hc0, hc1, hc2, hc3, hc4, hc5, fr_X12_touches, fr_ta1, fr_X12_touchesAll, fr_cps1, fr_X12_copies, fr_sav, fr_bg1, fr_bg2, fr_X12_begins, fr_ly1, fr_X12_lays, fr_bgn1, fr_X12_begin, fr_X12_setCorner, fr_fi1, fr_X12_fill, fr_fg1, fr_X12_forgets, fr_rc1, fr_rc2, fr_X12_reaches, fr_mfl1, fr_X12_flood, fr_mrg1, fr_X12_regions, fr_mra1, fr_X12_raise, fr_sp1, fr_X12_setPath, fr_sr1, fr_sr2, fr_X12_setRank, fr_X12_becomes, fr_X12_setTiles, fr_X12_setVariants, fr_X12_setSeed, fr_X12_setBorder, fr_X12_makesUp, fr_X12_finds, fr_X12_parts, fr_put, fr_mfy2, fr_X12_findsLayers, fr_mfp1, fr_mfp2, fr_X12_findsPieces, fr_X12_layers, fr_X12_layer, fr_X12_pieces, fr_X12_piece, fr_X12_isStaleAt, fr_mpa1, fr_X12_paints, fr_X12_isStale, fr_mst2, fr_X12_stale, fr_mpt1, fr_X12_paint]
def tr_pc (I : tq_I) : Prop := ∀ c, c < 100 → 0 ≤ (I 118 (343 + 10 * c)).toInt ∧ (I 118 (343 + 10 * c)).toInt ≤ 7
theorem tr_ainc {a : Int32} {n : Nat} (h0 : 0 ≤ a.toInt) (h1 : a.toInt ≤ (n : Int)) (hn : n < 10000) : (a + nI 1).toInt = a.toInt + 1 := by
  have e := tq_nIN h0
  have h2 : tq_N a ≤ n := by unfold tq_N; omega
  generalize tq_N a = m at e h2
  subst e
  rw [nI_add, nI_toInt (by omega), nI_toInt (by omega)]
  rfl
def f_mfk1 (I : tq_I) (c at_ q K : Nat) (i : Nat) (a : Int32) : Option (Int32) := (if (I 128 (tq_N a)) = (I 118 ((at_ + 2) + q)) then none else (some (a + (nI 1))))
set_option maxRecDepth 20000 in
theorem lp_mfk1 {g : tq_G} {x0 : tq_X} (C : tq_C g mX12_findsKinds x0) (hR : tq_ht x0 1 0 0) (I : tq_I) (J : Int64) (c at_ q K : Nat) (hat : at_ ≤ 1400) (hq : q ≤ 8) (hK : I 117 18 = nI K) (hK8 : K ≤ 800) : ∀ (n i : Nat) (a : Int32), (0 ≤ a.toInt ∧ a.toInt + (n : Int) = (K : Int)) → EV g mX12_findsKinds x0 0 0 76 [some (.ref 117), some (.int (nI c)), some (.int (nI at_)), some (.int (nI q)), some (.int (tq_wh (f_mfk1 I c at_ q K) n i a))] [] (tq_SC ++ tq_SR) tq_RR I J → EV g mX12_findsKinds x0 0 0 41 [some (.ref 117), some (.int (nI c)), some (.int (nI at_)), some (.int (nI q)), some (.int a)] [] (tq_SC ++ tq_SR) tq_RR I J := by
  intro n
  induction n with
  | zero =>
    intro i a hi kk
    rw [show tq_wh _ 0 i a = a from rfl] at kk
    refine EV_blk (own := 12) C rfl [(.iload 4, 0, 0, 0, 0), (.aload_n 0, 0, 0, 0, 0), (.getfield 173, 12, 18, 917, 0)] (pc' := 47) (by decide +kernel) (lv' := [some (.ref 117), some (.int (nI c)), some (.int (nI at_)), some (.int (nI q)), some (.int a)]) (st' := [.int (I 117 18), .int a]) (I' := I) (J' := J) rfl ?_
    refine EV_icmp_ge (off := 29) (tgt := 76) C (by decide +kernel) (by decide) (fun h1 => ?_) (fun h1 => ?_)
    · skip
      exact kk
    · skip
      exact absurd (by rw [hK]; simp (disch := omega) only [Int32.le_iff_toInt_le, nI_toInt]; omega) h1
  | succ n ih =>
    intro i a hi kk
    refine EV_blk (own := 12) C rfl [(.iload 4, 0, 0, 0, 0), (.aload_n 0, 0, 0, 0, 0), (.getfield 173, 12, 18, 917, 0)] (pc' := 47) (by decide +kernel) (lv' := [some (.ref 117), some (.int (nI c)), some (.int (nI at_)), some (.int (nI q)), some (.int a)]) (st' := [.int (I 117 18), .int a]) (I' := I) (J' := J) rfl ?_
    refine EV_icmp_ge (off := 29) (tgt := 76) C (by decide +kernel) (by decide) (fun h1 => ?_) (fun h1 => ?_)
    · skip
      exact absurd h1 (by rw [hK]; simp (disch := omega) only [Int32.le_iff_toInt_le, nI_toInt]; omega)
    · skip
      refine EV_blk (own := 12) C rfl [(.aload_n 0, 0, 0, 0, 0), (.getfield 41, 12, 16, 915, 0), (.iload 4, 0, 0, 0, 0)] (pc' := 56) (by decide +kernel) (lv' := [some (.ref 117), some (.int (nI c)), some (.int (nI at_)), some (.int (nI q)), some (.int a)]) (st' := [.int a, .ref 128]) (I' := I) (J' := J) rfl ?_
      refine EV_iald (j := (tq_N a)) C (by decide +kernel) rfl (tq_NI hi.1) (tq_Nlt hi.1 (by omega)) ?_
      refine EV_blk (own := 12) C rfl [(.aload_n 0, 0, 0, 0, 0), (.getfield 7, 12, 0, 899, 0), (.iload_n 2, 0, 0, 0, 0), (.iconst 2, 0, 0, 0, (nI 2)), (.iadd, 0, 0, 0, 0), (.iload_n 3, 0, 0, 0, 0), (.iadd, 0, 0, 0, 0)] (pc' := 66) (by decide +kernel) (lv' := [some (.ref 117), some (.int (nI c)), some (.int (nI at_)), some (.int (nI q)), some (.int a)]) (st' := [.int (((nI at_) + (nI 2)) + (nI q)), .ref 118, .int (I 128 (tq_N a))]) (I' := I) (J' := J) rfl ?_
      refine EV_iald (j := ((at_ + 2) + q)) C (by decide +kernel) rfl (tq_toI ((at_ + 2) + q) (by simp (disch := omega) only [nI_add, tq_mul, tq_rem_nI, tq_div_nI, tq_sub_nI]) (by omega)) (by omega) ?_
      refine EV_icmp_eq (off := 9) (tgt := 76) C (by decide +kernel) (by decide) (fun h2 => ?_) (fun h2 => ?_)
      · skip
        rw [tq_wh_none (show (f_mfk1 I c at_ q K) i a = none from by simp only [f_mfk1, if_neg h1, if_pos h2])] at kk
        exact kk
      · skip
        refine EV_blk (own := 12) C rfl [(.iinc 4 1, 0, 0, 0, (nI 1)), (.goto (-32), 0, 0, 0, 0)] (pc' := 41) (by decide +kernel) (lv' := [some (.ref 117), some (.int (nI c)), some (.int (nI at_)), some (.int (nI q)), some (.int (a + (nI 1)))]) (st' := []) (I' := I) (J' := J) rfl ?_
        rw [tq_wh_some (show (f_mfk1 I c at_ q K) i a = some (a + (nI 1)) from by simp only [f_mfk1, if_neg h1, if_neg h2])] at kk
        exact ih (i + 1) (a + (nI 1)) (by have := tr_ainc (n := K) hi.1 (by omega) (by omega); omega) kk
def tr_fk (I : tq_I) (c at_ q : Nat) : Int32 := tq_wh (f_mfk1 I c at_ q (tq_N (I 117 18))) (tq_N (I 117 18)) 0 (nI 0)
theorem tr_fki {I : tq_I} {c at_ q K M : Nat} (hM : M ≤ 800) : ∀ (n i : Nat) (a : Int32), 0 ≤ a.toInt → a.toInt + (n : Int) = (M : Int) → 0 ≤ (tq_wh (f_mfk1 I c at_ q K) n i a).toInt ∧ (tq_wh (f_mfk1 I c at_ q K) n i a).toInt ≤ (M : Int)
  | 0, i, a, h0, h1 => by
    show 0 ≤ a.toInt ∧ a.toInt ≤ (M : Int)
    omega
  | n + 1, i, a, h0, h1 => by
    have h2 := tr_ainc (n := 800) h0 (by omega) (by omega)
    match hf : f_mfk1 I c at_ q K i a with
    | none => rw [tq_wh_none hf]; omega
    | some b =>
      rw [tq_wh_some hf]
      have e : b = a + nI 1 := by
        unfold f_mfk1 at hf
        split at hf
        · cases hf
        · exact (Option.some.inj hf).symm
      subst e
      exact tr_fki hM n (i + 1) _ (by omega) (by omega)
theorem tr_fkb {I : tq_I} {c at_ q : Nat} (h0 : 0 ≤ (I 117 18).toInt) (hb : (I 117 18).toInt ≤ 800) : 0 ≤ (tr_fk I c at_ q).toInt ∧ (tr_fk I c at_ q).toInt ≤ (I 117 18).toInt := by
  have hN : tq_N (I 117 18) ≤ 800 := by unfold tq_N; omega
  have := tr_fki (I := I) (c := c) (at_ := at_) (q := q) (K := tq_N (I 117 18)) hN (tq_N (I 117 18)) 0 (nI 0) (by decide) (by rw [nI_toInt (by decide)]; omega)
  rw [tq_NI h0]
  exact this
def tr_fkQ (a : tq_I) (B q cn : Nat) (at_ : Nat) : Prop := (0 ≤ (a 117 18).toInt ∧ (a 117 18).toInt ≤ (B + q : Nat)) ∧ a 118 at_ = nI cn
theorem tr_fkQ0 {a : tq_I} {B q cn at_ j : Nat} {v : Int32} (h : tr_fkQ a B q cn at_) : tr_fkQ (tq_u a 129 j v) B (q + 1) cn at_ := by
  refine ⟨?_, ?_⟩
  · rw [tq_u_cell (by decide)]
    have := h.1
    omega
  · rw [tq_u_cell (by decide)]; exact h.2
theorem tr_fkQ1 {a : tq_I} {B q cn at_ j1 j2 j3 : Nat} {v1 v2 v3 : Int32} (h : tr_fkQ a B q cn at_) (hB : B + q < 1000) : tr_fkQ (tq_u (tq_u (tq_u (tq_u a 128 j1 v1) 129 j2 v2) 117 18 ((tq_u (tq_u a 128 j1 v1) 129 j2 v2) 117 18 + nI 1)) 129 j3 v3) B (q + 1) cn at_ := by
  refine ⟨?_, ?_⟩
  · rw [tq_u_cell (by decide), tq_u_same, tq_u_cell (by decide), tq_u_cell (by decide)]
    have := tr_ainc (n := B + q) h.1.1 h.1.2 (by omega)
    have h2 := h.1
    omega
  · rw [tq_u_cell (by decide), tq_u_cell (by decide), tq_u_cell (by decide), tq_u_cell (by decide)]; exact h.2
def f_mfk2 (c at_ cn : Nat) (i : Nat) (a : tq_I) : tq_I := (if (tr_fk a c at_ i) = (a 117 18) then (tq_u (tq_u (tq_u (tq_u a 128 (tq_N (tr_fk a c at_ i)) (a 118 ((at_ + 2) + i))) 129 (tq_N (tr_fk a c at_ i)) (nI 0)) 117 18 (((tq_u (tq_u a 128 (tq_N (tr_fk a c at_ i)) (a 118 ((at_ + 2) + i))) 129 (tq_N (tr_fk a c at_ i)) (nI 0)) 117 18) + (nI 1))) 129 (tq_N (tr_fk a c at_ i)) (((tq_u (tq_u (tq_u a 128 (tq_N (tr_fk a c at_ i)) (a 118 ((at_ + 2) + i))) 129 (tq_N (tr_fk a c at_ i)) (nI 0)) 117 18 (((tq_u (tq_u a 128 (tq_N (tr_fk a c at_ i)) (a 118 ((at_ + 2) + i))) 129 (tq_N (tr_fk a c at_ i)) (nI 0)) 117 18) + (nI 1))) 129 (tq_N (tr_fk a c at_ i))) + (nI 1))) else (tq_u a 129 (tq_N (tr_fk a c at_ i)) ((a 129 (tq_N (tr_fk a c at_ i))) + (nI 1))))
set_option maxRecDepth 20000 in
theorem lp_mfk2 {g : tq_G} {x0 : tq_X} (C : tq_C g mX12_findsKinds x0) (hR : tq_ht x0 1 0 0) (J : Int64) (c at_ cn : Nat) (hc : c < 100) (hat : at_ ≤ 1400) (hcn : cn ≤ 7) : ∀ (n i : Nat) (a : tq_I), i + n = cn → tr_fkQ a (7 * c) i cn at_ → EV g mX12_findsKinds x0 0 0 137 [some (.ref 117), some (.int (nI c)), some (.int (nI at_)), some (.int (nI (i + n))), none] [] (tq_SC ++ tq_SR) tq_RR (tq_it (f_mfk2 c at_ cn) n i a) J → EV g mX12_findsKinds x0 0 0 28 [some (.ref 117), some (.int (nI c)), some (.int (nI at_)), some (.int (nI i)), none] [] (tq_SC ++ tq_SR) tq_RR a J := by
  intro n
  induction n with
  | zero =>
    intro i a hi hI kk
    rw [Nat.add_zero] at kk
    refine EV_blk (own := 12) C rfl [(.iload_n 3, 0, 0, 0, 0), (.aload_n 0, 0, 0, 0, 0), (.getfield 7, 12, 0, 899, 0), (.iload_n 2, 0, 0, 0, 0)] (pc' := 34) (by decide +kernel) (lv' := [some (.ref 117), some (.int (nI c)), some (.int (nI at_)), some (.int (nI i)), none]) (st' := [.int (nI at_), .ref 118, .int (nI i)]) (I' := a) (J' := J) rfl ?_
    refine EV_iald (j := at_) C (by decide +kernel) rfl (nI_toInt (by omega)) (by omega) ?_
    refine EV_icmp_ge (off := 102) (tgt := 137) C (by decide +kernel) (by decide) (fun h1 => ?_) (fun h1 => ?_)
    · skip
      exact kk
    · skip
      exact absurd h1 (by simp (disch := omega) only [Int32.lt_iff_toInt_lt, Int32.le_iff_toInt_le, Int32.toInt_zero, nI_toInt, tq_m1, hI.2]; omega)
  | succ n ih =>
    intro i a hi hI kk
    rw [show i + (n + 1) = (i + 1) + n by omega] at kk
    refine EV_blk (own := 12) C rfl [(.iload_n 3, 0, 0, 0, 0), (.aload_n 0, 0, 0, 0, 0), (.getfield 7, 12, 0, 899, 0), (.iload_n 2, 0, 0, 0, 0)] (pc' := 34) (by decide +kernel) (lv' := [some (.ref 117), some (.int (nI c)), some (.int (nI at_)), some (.int (nI i)), none]) (st' := [.int (nI at_), .ref 118, .int (nI i)]) (I' := a) (J' := J) rfl ?_
    refine EV_iald (j := at_) C (by decide +kernel) rfl (nI_toInt (by omega)) (by omega) ?_
    refine EV_icmp_ge (off := 102) (tgt := 137) C (by decide +kernel) (by decide) (fun h1 => ?_) (fun h1 => ?_)
    · skip
      exact absurd h1 (by simp (disch := omega) only [Int32.lt_iff_toInt_lt, Int32.le_iff_toInt_le, Int32.toInt_zero, nI_toInt, tq_m1, hI.2]; omega)
    · skip
      refine EV_blk (own := 12) C rfl [(.iconst 0, 0, 0, 0, (nI 0)), (.istore 4, 0, 0, 0, 0)] (pc' := 41) (by decide +kernel) (lv' := [some (.ref 117), some (.int (nI c)), some (.int (nI at_)), some (.int (nI i)), some (.int (nI 0))]) (st' := []) (I' := a) (J' := J) rfl ?_
      have hK0 := hI.1.1
      have hK1 := hI.1.2
      have hKN : tq_N (a 117 18) ≤ 800 := by unfold tq_N; omega
      have hfd := tr_fkb (c := c) (at_ := at_) (q := i) hI.1.1 (by omega)
      refine lp_mfk1 C hR a J c at_ i (tq_N (a 117 18)) (by omega) (by omega) (tq_nIN hI.1.1) hKN (tq_N (a 117 18)) 0 (nI 0) ⟨by decide, by rw [nI_toInt (by decide)]; omega⟩ ?_
      change EV _ _ _ _ _ _ [some (.ref 117), some (.int (nI c)), some (.int (nI at_)), some (.int (nI i)), some (.int (tr_fk a c at_ i))] _ _ _ _ _
      refine EV_blk (own := 12) C rfl [(.iload 4, 0, 0, 0, 0), (.aload_n 0, 0, 0, 0, 0), (.getfield 173, 12, 18, 917, 0)] (pc' := 82) (by decide +kernel) (lv' := [some (.ref 117), some (.int (nI c)), some (.int (nI at_)), some (.int (nI i)), some (.int (tr_fk a c at_ i))]) (st' := [.int (a 117 18), .int (tr_fk a c at_ i)]) (I' := a) (J' := J) rfl ?_
      refine EV_icmp_ne (off := 38) (tgt := 120) C (by decide +kernel) (by decide) (fun hfe => ?_) (fun hfe => ?_)
      · skip
        refine EV_blk (own := 12) C rfl [(.aload_n 0, 0, 0, 0, 0), (.getfield 44, 12, 17, 916, 0), (.iload 4, 0, 0, 0, 0), (.dup2, 0, 0, 0, 0)] (pc' := 127) (by decide +kernel) (lv' := [some (.ref 117), some (.int (nI c)), some (.int (nI at_)), some (.int (nI i)), some (.int (tr_fk a c at_ i))]) (st' := [.int (tr_fk a c at_ i), .ref 129, .int (tr_fk a c at_ i), .ref 129]) (I' := a) (J' := J) rfl ?_
        refine EV_iald (j := (tq_N (tr_fk a c at_ i))) C (by decide +kernel) rfl (tq_NI hfd.1) (tq_Nlt hfd.1 (by omega)) ?_
        refine EV_blk (own := 12) C rfl [(.iconst 1, 0, 0, 0, (nI 1)), (.iadd, 0, 0, 0, 0)] (pc' := 130) (by decide +kernel) (lv' := [some (.ref 117), some (.int (nI c)), some (.int (nI at_)), some (.int (nI i)), some (.int (tr_fk a c at_ i))]) (st' := [.int ((a 129 (tq_N (tr_fk a c at_ i))) + (nI 1)), .int (tr_fk a c at_ i), .ref 129]) (I' := a) (J' := J) rfl ?_
        refine EV_iast (j := (tq_N (tr_fk a c at_ i))) C (by decide +kernel) rfl (tq_NI hfd.1) (tq_Nlt hfd.1 (by omega)) ?_
        refine EV_blk (own := 12) C rfl [(.iinc 3 1, 0, 0, 0, (nI 1)), (.goto (-106), 0, 0, 0, 0)] (pc' := 28) (by decide +kernel) (lv' := [some (.ref 117), some (.int (nI c)), some (.int (nI at_)), some (.int ((nI i) + (nI 1))), some (.int (tr_fk a c at_ i))]) (st' := []) (I' := (tq_u a 129 (tq_N (tr_fk a c at_ i)) ((a 129 (tq_N (tr_fk a c at_ i))) + (nI 1)))) (J' := J) rfl ?_
        refine EV_fg (lv' := [some (.ref 117), some (.int (nI c)), some (.int (nI at_)), some (.int ((nI i) + (nI 1))), none]) ⟨rfl, rfl, rfl, rfl, trivial⟩ ?_
        rw [show ((nI i) + (nI 1)) = (nI (i + 1)) from by simp (disch := omega) only [nI_add, tq_mul] <;> exact congrArg nI (by omega)]
        rw [tq_its, show (f_mfk2 c at_ cn) i a = (tq_u a 129 (tq_N (tr_fk a c at_ i)) ((a 129 (tq_N (tr_fk a c at_ i))) + (nI 1))) from by simp only [f_mfk2, if_neg h1, if_neg hfe]] at kk
        exact ih (i + 1) (tq_u a 129 (tq_N (tr_fk a c at_ i)) ((a 129 (tq_N (tr_fk a c at_ i))) + (nI 1))) (by omega) (tr_fkQ0 hI) kk
      · skip
        refine EV_blk (own := 12) C rfl [(.aload_n 0, 0, 0, 0, 0), (.getfield 41, 12, 16, 915, 0), (.iload 4, 0, 0, 0, 0), (.aload_n 0, 0, 0, 0, 0), (.getfield 7, 12, 0, 899, 0), (.iload_n 2, 0, 0, 0, 0), (.iconst 2, 0, 0, 0, (nI 2)), (.iadd, 0, 0, 0, 0), (.iload_n 3, 0, 0, 0, 0), (.iadd, 0, 0, 0, 0)] (pc' := 100) (by decide +kernel) (lv' := [some (.ref 117), some (.int (nI c)), some (.int (nI at_)), some (.int (nI i)), some (.int (tr_fk a c at_ i))]) (st' := [.int (((nI at_) + (nI 2)) + (nI i)), .ref 118, .int (tr_fk a c at_ i), .ref 128]) (I' := a) (J' := J) rfl ?_
        refine EV_iald (j := ((at_ + 2) + i)) C (by decide +kernel) rfl (tq_toI ((at_ + 2) + i) (by simp (disch := omega) only [nI_add, tq_mul, tq_rem_nI, tq_div_nI, tq_sub_nI]) (by omega)) (by omega) ?_
        refine EV_iast (j := (tq_N (tr_fk a c at_ i))) C (by decide +kernel) rfl (tq_NI hfd.1) (tq_Nlt hfd.1 (by omega)) ?_
        refine EV_blk (own := 12) C rfl [(.aload_n 0, 0, 0, 0, 0), (.getfield 44, 12, 17, 916, 0), (.iload 4, 0, 0, 0, 0), (.iconst 0, 0, 0, 0, (nI 0))] (pc' := 109) (by decide +kernel) (lv' := [some (.ref 117), some (.int (nI c)), some (.int (nI at_)), some (.int (nI i)), some (.int (tr_fk a c at_ i))]) (st' := [.int (nI 0), .int (tr_fk a c at_ i), .ref 129]) (I' := (tq_u a 128 (tq_N (tr_fk a c at_ i)) (a 118 ((at_ + 2) + i)))) (J' := J) rfl ?_
        refine EV_iast (j := (tq_N (tr_fk a c at_ i))) C (by decide +kernel) rfl (tq_NI hfd.1) (tq_Nlt hfd.1 (by omega)) ?_
        refine EV_blk (own := 12) C rfl [(.aload_n 0, 0, 0, 0, 0), (.dup, 0, 0, 0, 0), (.getfield 173, 12, 18, 917, 0), (.iconst 1, 0, 0, 0, (nI 1)), (.iadd, 0, 0, 0, 0), (.putfield 173, 12, 18, 917, 0), (.aload_n 0, 0, 0, 0, 0), (.getfield 44, 12, 17, 916, 0), (.iload 4, 0, 0, 0, 0), (.dup2, 0, 0, 0, 0)] (pc' := 127) (by decide +kernel) (lv' := [some (.ref 117), some (.int (nI c)), some (.int (nI at_)), some (.int (nI i)), some (.int (tr_fk a c at_ i))]) (st' := [.int (tr_fk a c at_ i), .ref 129, .int (tr_fk a c at_ i), .ref 129]) (I' := (tq_u (tq_u (tq_u a 128 (tq_N (tr_fk a c at_ i)) (a 118 ((at_ + 2) + i))) 129 (tq_N (tr_fk a c at_ i)) (nI 0)) 117 18 (((tq_u (tq_u a 128 (tq_N (tr_fk a c at_ i)) (a 118 ((at_ + 2) + i))) 129 (tq_N (tr_fk a c at_ i)) (nI 0)) 117 18) + (nI 1)))) (J' := J) rfl ?_
        refine EV_iald (j := (tq_N (tr_fk a c at_ i))) C (by decide +kernel) rfl (tq_NI hfd.1) (tq_Nlt hfd.1 (by omega)) ?_
        refine EV_blk (own := 12) C rfl [(.iconst 1, 0, 0, 0, (nI 1)), (.iadd, 0, 0, 0, 0)] (pc' := 130) (by decide +kernel) (lv' := [some (.ref 117), some (.int (nI c)), some (.int (nI at_)), some (.int (nI i)), some (.int (tr_fk a c at_ i))]) (st' := [.int (((tq_u (tq_u (tq_u a 128 (tq_N (tr_fk a c at_ i)) (a 118 ((at_ + 2) + i))) 129 (tq_N (tr_fk a c at_ i)) (nI 0)) 117 18 (((tq_u (tq_u a 128 (tq_N (tr_fk a c at_ i)) (a 118 ((at_ + 2) + i))) 129 (tq_N (tr_fk a c at_ i)) (nI 0)) 117 18) + (nI 1))) 129 (tq_N (tr_fk a c at_ i))) + (nI 1)), .int (tr_fk a c at_ i), .ref 129]) (I' := (tq_u (tq_u (tq_u a 128 (tq_N (tr_fk a c at_ i)) (a 118 ((at_ + 2) + i))) 129 (tq_N (tr_fk a c at_ i)) (nI 0)) 117 18 (((tq_u (tq_u a 128 (tq_N (tr_fk a c at_ i)) (a 118 ((at_ + 2) + i))) 129 (tq_N (tr_fk a c at_ i)) (nI 0)) 117 18) + (nI 1)))) (J' := J) rfl ?_
        refine EV_iast (j := (tq_N (tr_fk a c at_ i))) C (by decide +kernel) rfl (tq_NI hfd.1) (tq_Nlt hfd.1 (by omega)) ?_
        refine EV_blk (own := 12) C rfl [(.iinc 3 1, 0, 0, 0, (nI 1)), (.goto (-106), 0, 0, 0, 0)] (pc' := 28) (by decide +kernel) (lv' := [some (.ref 117), some (.int (nI c)), some (.int (nI at_)), some (.int ((nI i) + (nI 1))), some (.int (tr_fk a c at_ i))]) (st' := []) (I' := (tq_u (tq_u (tq_u (tq_u a 128 (tq_N (tr_fk a c at_ i)) (a 118 ((at_ + 2) + i))) 129 (tq_N (tr_fk a c at_ i)) (nI 0)) 117 18 (((tq_u (tq_u a 128 (tq_N (tr_fk a c at_ i)) (a 118 ((at_ + 2) + i))) 129 (tq_N (tr_fk a c at_ i)) (nI 0)) 117 18) + (nI 1))) 129 (tq_N (tr_fk a c at_ i)) (((tq_u (tq_u (tq_u a 128 (tq_N (tr_fk a c at_ i)) (a 118 ((at_ + 2) + i))) 129 (tq_N (tr_fk a c at_ i)) (nI 0)) 117 18 (((tq_u (tq_u a 128 (tq_N (tr_fk a c at_ i)) (a 118 ((at_ + 2) + i))) 129 (tq_N (tr_fk a c at_ i)) (nI 0)) 117 18) + (nI 1))) 129 (tq_N (tr_fk a c at_ i))) + (nI 1)))) (J' := J) rfl ?_
        refine EV_fg (lv' := [some (.ref 117), some (.int (nI c)), some (.int (nI at_)), some (.int ((nI i) + (nI 1))), none]) ⟨rfl, rfl, rfl, rfl, trivial⟩ ?_
        rw [show ((nI i) + (nI 1)) = (nI (i + 1)) from by simp (disch := omega) only [nI_add, tq_mul] <;> exact congrArg nI (by omega)]
        rw [tq_its, show (f_mfk2 c at_ cn) i a = (tq_u (tq_u (tq_u (tq_u a 128 (tq_N (tr_fk a c at_ i)) (a 118 ((at_ + 2) + i))) 129 (tq_N (tr_fk a c at_ i)) (nI 0)) 117 18 (((tq_u (tq_u a 128 (tq_N (tr_fk a c at_ i)) (a 118 ((at_ + 2) + i))) 129 (tq_N (tr_fk a c at_ i)) (nI 0)) 117 18) + (nI 1))) 129 (tq_N (tr_fk a c at_ i)) (((tq_u (tq_u (tq_u a 128 (tq_N (tr_fk a c at_ i)) (a 118 ((at_ + 2) + i))) 129 (tq_N (tr_fk a c at_ i)) (nI 0)) 117 18 (((tq_u (tq_u a 128 (tq_N (tr_fk a c at_ i)) (a 118 ((at_ + 2) + i))) 129 (tq_N (tr_fk a c at_ i)) (nI 0)) 117 18) + (nI 1))) 129 (tq_N (tr_fk a c at_ i))) + (nI 1))) from by simp only [f_mfk2, if_neg h1, if_pos hfe]] at kk
        exact ih (i + 1) (tq_u (tq_u (tq_u (tq_u a 128 (tq_N (tr_fk a c at_ i)) (a 118 ((at_ + 2) + i))) 129 (tq_N (tr_fk a c at_ i)) (nI 0)) 117 18 (((tq_u (tq_u a 128 (tq_N (tr_fk a c at_ i)) (a 118 ((at_ + 2) + i))) 129 (tq_N (tr_fk a c at_ i)) (nI 0)) 117 18) + (nI 1))) 129 (tq_N (tr_fk a c at_ i)) (((tq_u (tq_u (tq_u a 128 (tq_N (tr_fk a c at_ i)) (a 118 ((at_ + 2) + i))) 129 (tq_N (tr_fk a c at_ i)) (nI 0)) 117 18 (((tq_u (tq_u a 128 (tq_N (tr_fk a c at_ i)) (a 118 ((at_ + 2) + i))) 129 (tq_N (tr_fk a c at_ i)) (nI 0)) 117 18) + (nI 1))) 129 (tq_N (tr_fk a c at_ i))) + (nI 1))) (by omega) (tr_fkQ1 hI (by omega)) kk
theorem fr_mfk2 (c at_ cn : Nat) {cz : Nat} (hc : cz ≠ 117 ∧ cz ≠ 128 ∧ cz ≠ 129) (n i : Nat) (a : tq_I) (jz : Nat) : (tq_it (f_mfk2 c at_ cn) n i a) cz jz = a cz jz := by
  obtain ⟨hc0, hc1, hc2⟩ := hc
  refine tq_itF (fun i a j => ?_) n i a jz
  simp only [f_mfk2]
  (repeat' split) <;> simp (disch := first | assumption | (simp only [ne_eq] at *; simp [*])) [tq_u, tq_cp, hc0, hc1, hc2, fr_X12_touches, fr_ta1, fr_X12_touchesAll, fr_cps1, fr_X12_copies, fr_sav, fr_bg1, fr_bg2, fr_X12_begins, fr_ly1, fr_X12_lays, fr_bgn1, fr_X12_begin, fr_X12_setCorner, fr_fi1, fr_X12_fill, fr_fg1, fr_X12_forgets, fr_rc1, fr_rc2, fr_X12_reaches, fr_mfl1, fr_X12_flood, fr_mrg1, fr_X12_regions, fr_mra1, fr_X12_raise, fr_sp1, fr_X12_setPath, fr_sr1, fr_sr2, fr_X12_setRank, fr_X12_becomes, fr_X12_setTiles, fr_X12_setVariants, fr_X12_setSeed, fr_X12_setBorder, fr_X12_makesUp, fr_X12_finds, fr_X12_parts, fr_put, fr_mfy2, fr_X12_findsLayers, fr_mfp1, fr_mfp2, fr_X12_findsPieces, fr_X12_layers, fr_X12_layer, fr_X12_pieces, fr_X12_piece, fr_X12_isStaleAt, fr_mpa1, fr_X12_paints, fr_X12_isStale, fr_mst2, fr_X12_stale, fr_mpt1, fr_X12_paint, fr_X12_paintCell]
theorem tr_fkQ_it {c at_ cn : Nat} (hc : c < 100) (hcn : cn ≤ 7) : ∀ (n i : Nat) (a : tq_I), i + n = cn → tr_fkQ a (7 * c) i cn at_ → tr_fkQ (tq_it (f_mfk2 c at_ cn) n i a) (7 * c) cn cn at_
  | 0, i, a, hi, q => by rw [show i = cn by omega] at q; exact q
  | n + 1, i, a, hi, q => by
    refine tr_fkQ_it hc hcn n (i + 1) _ (by omega) ?_
    unfold f_mfk2
    split
    · exact tr_fkQ1 q (by omega)
    · exact tr_fkQ0 q
def tr_fkR (a : tq_I) (c : Nat) : Prop := tr_pc a ∧ 0 ≤ (a 117 18).toInt ∧ (a 117 18).toInt ≤ (7 * c : Nat)
theorem tr_pc.fr {I K : tq_I} (h : tr_pc I) (e : ∀ j, K 118 j = I 118 j) : tr_pc K := fun c hc => by rw [e]; exact h c hc
theorem tr_fkR.q {a : tq_I} {c : Nat} (k : tr_fkR a c) (hc : c < 100) : a 118 (343 + 10 * (10 * (c / 10) + c % 10)) = nI (tq_N (a 118 (343 + 10 * (10 * (c / 10) + c % 10)))) ∧ tq_N (a 118 (343 + 10 * (10 * (c / 10) + c % 10))) ≤ 7 := by
  have h := k.1 (10 * (c / 10) + c % 10) (by omega)
  refine ⟨tq_nIN h.1, ?_⟩
  unfold tq_N
  omega
theorem tr_fkR.step {a : tq_I} {c : Nat} (k : tr_fkR a c) (hc : c < 100) : tr_fkR (tq_it (f_mfk2 c (343 + 10 * (10 * (c / 10) + c % 10)) (tq_N (a 118 (343 + 10 * (10 * (c / 10) + c % 10))))) (tq_N (a 118 (343 + 10 * (10 * (c / 10) + c % 10)))) 0 a) (c + 1) := by
  have hq := k.q hc
  have h := tr_fkQ_it (at_ := 343 + 10 * (10 * (c / 10) + c % 10)) hc hq.2 _ 0 a (Nat.zero_add _) ⟨⟨k.2.1, by have := k.2.2; omega⟩, hq.1⟩
  exact ⟨k.1.fr (fun j => fr_mfk2 _ _ _ (by decide) _ _ _ j), h.1.1, by have := h.1.2; omega⟩
def f_mfk3  (i : Nat) (a : tq_I) : tq_I := (tq_it (f_mfk2 i (343 + 10 * (10 * (i / 10) + (i % 10))) (tq_N (a 118 (343 + 10 * (10 * (i / 10) + i % 10))))) (tq_N (a 118 (343 + 10 * (10 * (i / 10) + i % 10)))) 0 a)
set_option maxRecDepth 20000 in
theorem lp_mfk3 {g : tq_G} {x0 : tq_X} (C : tq_C g mX12_findsKinds x0) (hR : tq_ht x0 1 0 0) (J : Int64)   : ∀ (n i : Nat) (a : tq_I), i + n = 100 → tr_fkR a i → EV g mX12_findsKinds x0 0 0 143 [some (.ref 117), some (.int (nI (i + n))), none, none, none] [] (tq_SC ++ tq_SR) tq_RR (tq_it (f_mfk3) n i a) J → EV g mX12_findsKinds x0 0 0 7 [some (.ref 117), some (.int (nI i)), none, none, none] [] (tq_SC ++ tq_SR) tq_RR a J := by
  intro n
  induction n with
  | zero =>
    intro i a hi hI kk
    rw [Nat.add_zero] at kk
    refine EV_blk (own := 12) C rfl [(.iload_n 1, 0, 0, 0, 0), (.bipush 100, 0, 0, 0, (nI 100))] (pc' := 10) (by decide +kernel) (lv' := [some (.ref 117), some (.int (nI i)), none, none, none]) (st' := [.int (nI 100), .int (nI i)]) (I' := a) (J' := J) rfl ?_
    refine EV_icmp_ge (off := 133) (tgt := 143) C (by decide +kernel) (by decide) (fun h1 => ?_) (fun h1 => ?_)
    · skip
      exact kk
    · skip
      exact absurd h1 (by simp (disch := omega) only [Int32.lt_iff_toInt_lt, Int32.le_iff_toInt_le, Int32.toInt_zero, nI_toInt, tq_m1]; omega)
  | succ n ih =>
    intro i a hi hI kk
    rw [show i + (n + 1) = (i + 1) + n by omega] at kk
    refine EV_blk (own := 12) C rfl [(.iload_n 1, 0, 0, 0, 0), (.bipush 100, 0, 0, 0, (nI 100))] (pc' := 10) (by decide +kernel) (lv' := [some (.ref 117), some (.int (nI i)), none, none, none]) (st' := [.int (nI 100), .int (nI i)]) (I' := a) (J' := J) rfl ?_
    refine EV_icmp_ge (off := 133) (tgt := 143) C (by decide +kernel) (by decide) (fun h1 => ?_) (fun h1 => ?_)
    · skip
      exact absurd h1 (by simp (disch := omega) only [Int32.lt_iff_toInt_lt, Int32.le_iff_toInt_le, Int32.toInt_zero, nI_toInt, tq_m1]; omega)
    · skip
      refine EV_blk (own := 12) C rfl [(.aload_n 0, 0, 0, 0, 0), (.iload_n 1, 0, 0, 0, 0), (.bipush 10, 0, 0, 0, (nI 10))] (pc' := 17) (by decide +kernel) (lv' := [some (.ref 117), some (.int (nI i)), none, none, none]) (st' := [.int (nI 10), .int (nI i), .ref 117]) (I' := a) (J' := J) rfl ?_
      refine EV_irem C (by decide +kernel) (by decide) ?_
      refine EV_blk (own := 12) C rfl [(.iload_n 1, 0, 0, 0, 0), (.bipush 10, 0, 0, 0, (nI 10))] (pc' := 21) (by decide +kernel) (lv' := [some (.ref 117), some (.int (nI i)), none, none, none]) (st' := [.int (nI 10), .int (nI i), .int (tq_rem (nI i) (nI 10)), .ref 117]) (I' := a) (J' := J) rfl ?_
      refine EV_idiv C (by decide +kernel) (by decide) ?_
      rw [show ((nI i) / (nI 10)) = (nI (i / 10)) from by simp (disch := omega) only [nI_add, tq_mul, tq_rem_nI, tq_div_nI, tq_sub_nI]]
      rw [show (tq_rem (nI i) (nI 10)) = (nI (i % 10)) from by simp (disch := omega) only [nI_add, tq_mul, tq_rem_nI, tq_div_nI, tq_sub_nI]]
      refine EV_cV (own := 12) (idx := 164) (μ' := mX12_at) (b := 117) (cb := 12) (av := [.int (nI (i % 10)), .int (nI (i / 10))]) (rest := []) C hR rfl (Or.inl ⟨1177, by decide⟩) kX12_at sX12_at (c_X12_at g a J (i % 10) (i / 10) ) rfl rfl (by decide +kernel) rfl (by decide) (Nat.le_of_ble_eq_true rfl) rfl ⟨Nat.zero_le _, Nat.zero_le _⟩ ?_
      refine EV_blk (own := 12) C rfl [(.istore_n 2, 0, 0, 0, 0), (.iconst 0, 0, 0, 0, (nI 0)), (.istore_n 3, 0, 0, 0, 0)] (pc' := 28) (by decide +kernel) (lv' := [some (.ref 117), some (.int (nI i)), some (.int (nI (343 + 10 * (10 * (i / 10) + (i % 10))))), some (.int (nI 0)), none]) (st' := []) (I' := a) (J' := J) rfl ?_
      have hfq := hI.q (by omega)
      refine lp_mfk2 C hR J i (343 + 10 * (10 * (i / 10) + (i % 10))) (tq_N (a 118 (343 + 10 * (10 * (i / 10) + i % 10)))) (by omega) (by omega) hfq.2 (tq_N (a 118 (343 + 10 * (10 * (i / 10) + i % 10)))) 0 a (by omega) ⟨⟨hI.2.1, by have := hI.2.2; omega⟩, hfq.1⟩ ?_
      refine EV_blk (own := 12) C rfl [(.iinc 1 1, 0, 0, 0, (nI 1)), (.goto (-133), 0, 0, 0, 0)] (pc' := 7) (by decide +kernel) (lv' := [some (.ref 117), some (.int ((nI i) + (nI 1))), some (.int (nI (343 + 10 * (10 * (i / 10) + (i % 10))))), some (.int (nI ((0 + (tq_N (a 118 (343 + 10 * (10 * (i / 10) + i % 10)))))))), none]) (st' := []) (I' := (tq_it (f_mfk2 i (343 + 10 * (10 * (i / 10) + (i % 10))) (tq_N (a 118 (343 + 10 * (10 * (i / 10) + i % 10))))) (tq_N (a 118 (343 + 10 * (10 * (i / 10) + i % 10)))) 0 a)) (J' := J) rfl ?_
      refine EV_fg (lv' := [some (.ref 117), some (.int ((nI i) + (nI 1))), none, none, none]) ⟨rfl, rfl, trivial⟩ ?_
      rw [show ((nI i) + (nI 1)) = (nI (i + 1)) from by simp (disch := omega) only [nI_add, tq_mul] <;> exact congrArg nI (by omega)]
      rw [tq_its, show (f_mfk3) i a = (tq_it (f_mfk2 i (343 + 10 * (10 * (i / 10) + (i % 10))) (tq_N (a 118 (343 + 10 * (10 * (i / 10) + i % 10))))) (tq_N (a 118 (343 + 10 * (10 * (i / 10) + i % 10)))) 0 a) from by simp only [f_mfk3, if_neg h1]] at kk
      exact ih (i + 1) (tq_it (f_mfk2 i (343 + 10 * (10 * (i / 10) + (i % 10))) (tq_N (a 118 (343 + 10 * (10 * (i / 10) + i % 10))))) (tq_N (a 118 (343 + 10 * (10 * (i / 10) + i % 10)))) 0 a) (by omega) (hI.step (by omega)) kk
theorem fr_mfk3  {cz : Nat} (hc : cz ≠ 117 ∧ cz ≠ 128 ∧ cz ≠ 129) (n i : Nat) (a : tq_I) (jz : Nat) : (tq_it (f_mfk3) n i a) cz jz = a cz jz := by
  obtain ⟨hc0, hc1, hc2⟩ := hc
  refine tq_itF (fun i a j => ?_) n i a jz
  simp only [f_mfk3]
  (repeat' split) <;> simp (disch := first | assumption | (simp only [ne_eq] at *; simp [*])) [tq_u, tq_cp, hc0, hc1, hc2, fr_X12_touches, fr_ta1, fr_X12_touchesAll, fr_cps1, fr_X12_copies, fr_sav, fr_bg1, fr_bg2, fr_X12_begins, fr_ly1, fr_X12_lays, fr_bgn1, fr_X12_begin, fr_X12_setCorner, fr_fi1, fr_X12_fill, fr_fg1, fr_X12_forgets, fr_rc1, fr_rc2, fr_X12_reaches, fr_mfl1, fr_X12_flood, fr_mrg1, fr_X12_regions, fr_mra1, fr_X12_raise, fr_sp1, fr_X12_setPath, fr_sr1, fr_sr2, fr_X12_setRank, fr_X12_becomes, fr_X12_setTiles, fr_X12_setVariants, fr_X12_setSeed, fr_X12_setBorder, fr_X12_makesUp, fr_X12_finds, fr_X12_parts, fr_put, fr_mfy2, fr_X12_findsLayers, fr_mfp1, fr_mfp2, fr_X12_findsPieces, fr_X12_layers, fr_X12_layer, fr_X12_pieces, fr_X12_piece, fr_X12_isStaleAt, fr_mpa1, fr_X12_paints, fr_X12_isStale, fr_mst2, fr_X12_stale, fr_mpt1, fr_X12_paint, fr_X12_paintCell, fr_mfk2]
def I_X12_findsKinds (I : tq_I)  : tq_I := (tq_it (f_mfk3) 100 0 (tq_u I 117 18 (nI 0)))
set_option maxRecDepth 20000 in
theorem c_X12_findsKinds (g : tq_G) (I : tq_I) (J : Int64)  (k : tr_pc I) : CT g mX12_findsKinds 1 0 0 [.ref 117] (tq_SC ++ tq_SR) tq_RR I J (tq_ret (tq_SC ++ tq_SR) tq_RR none (I_X12_findsKinds I) J) := by
  refine CT.ret kX12_findsKinds (Nat.le_of_ble_eq_true rfl) (fun x0 C hR hZ => ?_)
  refine EV_en (lv' := [some (.ref 117), none, none, none, none]) 4 rfl ?_
  refine EV_blk (own := 12) C rfl [(.aload_n 0, 0, 0, 0, 0), (.iconst 0, 0, 0, 0, (nI 0)), (.putfield 173, 12, 18, 917, 0), (.iconst 0, 0, 0, 0, (nI 0)), (.istore_n 1, 0, 0, 0, 0)] (pc' := 7) (by decide +kernel) (lv' := [some (.ref 117), some (.int (nI 0)), none, none, none]) (st' := []) (I' := (tq_u I 117 18 (nI 0))) (J' := J) rfl ?_
  refine lp_mfk3 C hR J  100 0 (tq_u I 117 18 (nI 0)) (by omega) ⟨k.fr (fun j => tq_u_cell (by decide)), by rw [tq_u_same]; decide, by rw [tq_u_same]; decide⟩ ?_
  exact EV_vret C hZ rfl (by decide +kernel) (Nat.le_refl _) (Nat.le_refl _) ⟨rfl, rfl, rfl, by simp only [I_X12_findsKinds], rfl⟩
theorem fr_X12_findsKinds (I : tq_I)  {cz : Nat} (hc : cz ≠ 117 ∧ cz ≠ 128 ∧ cz ≠ 129) (jz : Nat) : I_X12_findsKinds I  cz jz = I cz jz := by
  obtain ⟨hc0, hc1, hc2⟩ := hc
  simp only [I_X12_findsKinds]
  (repeat' split) <;> simp (disch := first | assumption | (simp only [ne_eq] at *; simp [*])) [tq_u, tq_cp, hc0, hc1, hc2, fr_X12_touches, fr_ta1, fr_X12_touchesAll, fr_cps1, fr_X12_copies, fr_sav, fr_bg1, fr_bg2, fr_X12_begins, fr_ly1, fr_X12_lays, fr_bgn1, fr_X12_begin, fr_X12_setCorner, fr_fi1, fr_X12_fill, fr_fg1, fr_X12_forgets, fr_rc1, fr_rc2, fr_X12_reaches, fr_mfl1, fr_X12_flood, fr_mrg1, fr_X12_regions, fr_mra1, fr_X12_raise, fr_sp1, fr_X12_setPath, fr_sr1, fr_sr2, fr_X12_setRank, fr_X12_becomes, fr_X12_setTiles, fr_X12_setVariants, fr_X12_setSeed, fr_X12_setBorder, fr_X12_makesUp, fr_X12_finds, fr_X12_parts, fr_put, fr_mfy2, fr_X12_findsLayers, fr_mfp1, fr_mfp2, fr_X12_findsPieces, fr_X12_layers, fr_X12_layer, fr_X12_pieces, fr_X12_piece, fr_X12_isStaleAt, fr_mpa1, fr_X12_paints, fr_X12_isStale, fr_mst2, fr_X12_stale, fr_mpt1, fr_X12_paint, fr_X12_paintCell, fr_mfk2, fr_mfk3]
theorem tr_fkR_it : ∀ (n i : Nat) (a : tq_I), i + n = 100 → tr_fkR a i → tr_fkR (tq_it f_mfk3 n i a) 100
  | 0, i, a, hi, q => by rw [show i = 100 by omega] at q; exact q
  | n + 1, i, a, hi, q => tr_fkR_it n (i + 1) _ (by omega) (q.step (by omega))
theorem tr_fkE {I : tq_I} (k : tr_pc I) : 0 ≤ (I_X12_findsKinds I 117 18).toInt ∧ (I_X12_findsKinds I 117 18).toInt ≤ (700 : Nat) := (tr_fkR_it 100 0 (tq_u I 117 18 (nI 0)) rfl ⟨k.fr (fun j => tq_u_cell (by decide)), by rw [tq_u_same]; decide, by rw [tq_u_same]; decide⟩).2
def r_X12_kinds (I : tq_I)  : Int32 := ((I_X12_findsKinds I) 117 18)
def I_X12_kinds (I : tq_I)  : tq_I := (I_X12_findsKinds I)
set_option maxRecDepth 20000 in
theorem c_X12_kinds (g : tq_G) (I : tq_I) (J : Int64)  (k : tr_pc I) : CT g mX12_kinds 2 0 0 [.ref 117] (tq_SC ++ tq_SR) tq_RR I J (tq_ret (tq_SC ++ tq_SR) tq_RR (some (.int (r_X12_kinds I))) (I_X12_kinds I) J) := by
  refine CT.ret kX12_kinds (Nat.le_of_ble_eq_true rfl) (fun x0 C hR hZ => ?_)
  refine EV_en (lv' := [some (.ref 117)]) 0 rfl ?_
  refine EV_blk (own := 12) C rfl [(.aload_n 0, 0, 0, 0, 0)] (pc' := 1) (by decide +kernel) (lv' := [some (.ref 117)]) (st' := [.ref 117]) (I' := I) (J' := J) rfl ?_
  refine EV_cV (own := 12) (idx := 176) (μ' := mX12_findsKinds) (b := 117) (cb := 12) (av := []) (rest := []) C hR rfl (Or.inl ⟨1213, by decide⟩) kX12_findsKinds sX12_findsKinds (c_X12_findsKinds g I J  k) rfl rfl (by decide +kernel) rfl (by decide) (Nat.le_of_ble_eq_true rfl) rfl ⟨Nat.zero_le _, Nat.zero_le _⟩ ?_
  refine EV_blk (own := 12) C rfl [(.aload_n 0, 0, 0, 0, 0), (.getfield 173, 12, 18, 917, 0)] (pc' := 8) (by decide +kernel) (lv' := [some (.ref 117)]) (st' := [.int ((I_X12_findsKinds I) 117 18)]) (I' := (I_X12_findsKinds I)) (J' := J) rfl ?_
  exact EV_iret C hZ rfl (by decide +kernel) (Nat.le_refl _) (Nat.le_refl _) ⟨tq_some (by simp only [r_X12_kinds]), rfl, rfl, by simp only [I_X12_kinds], rfl⟩
theorem fr_X12_kinds (I : tq_I)  {cz : Nat} (hc : cz ≠ 117 ∧ cz ≠ 128 ∧ cz ≠ 129) (jz : Nat) : I_X12_kinds I  cz jz = I cz jz := by
  obtain ⟨hc0, hc1, hc2⟩ := hc
  simp only [I_X12_kinds]
  (repeat' split) <;> simp (disch := first | assumption | (simp only [ne_eq] at *; simp [*])) [tq_u, tq_cp, hc0, hc1, hc2, fr_X12_touches, fr_ta1, fr_X12_touchesAll, fr_cps1, fr_X12_copies, fr_sav, fr_bg1, fr_bg2, fr_X12_begins, fr_ly1, fr_X12_lays, fr_bgn1, fr_X12_begin, fr_X12_setCorner, fr_fi1, fr_X12_fill, fr_fg1, fr_X12_forgets, fr_rc1, fr_rc2, fr_X12_reaches, fr_mfl1, fr_X12_flood, fr_mrg1, fr_X12_regions, fr_mra1, fr_X12_raise, fr_sp1, fr_X12_setPath, fr_sr1, fr_sr2, fr_X12_setRank, fr_X12_becomes, fr_X12_setTiles, fr_X12_setVariants, fr_X12_setSeed, fr_X12_setBorder, fr_X12_makesUp, fr_X12_finds, fr_X12_parts, fr_put, fr_mfy2, fr_X12_findsLayers, fr_mfp1, fr_mfp2, fr_X12_findsPieces, fr_X12_layers, fr_X12_layer, fr_X12_pieces, fr_X12_piece, fr_X12_isStaleAt, fr_mpa1, fr_X12_paints, fr_X12_isStale, fr_mst2, fr_X12_stale, fr_mpt1, fr_X12_paint, fr_X12_paintCell, fr_mfk2, fr_mfk3, fr_X12_findsKinds]
def r_X12_kind (I : tq_I) (ly q : Int32) : Int32 := (if (tq_b ((nI 0).toInt ≤ ly.toInt ∧ ly.toInt ≤ (((I_X12_findsKinds I) 117 18) - (nI 1)).toInt)) = 0 then (-2) else (if (tq_b ((nI 0).toInt ≤ q.toInt ∧ q.toInt ≤ (nI 4).toInt)) = 0 then (-3) else (if q = (nI 4) then ((I_X12_findsKinds I) 129 (tq_N ly)) else (r_X12_ofPiece ((I_X12_findsKinds I) 128 (tq_N ly)) q))))
def I_X12_kind (I : tq_I) (ly q : Int32) : tq_I := (if (tq_b ((nI 0).toInt ≤ ly.toInt ∧ ly.toInt ≤ (((I_X12_findsKinds I) 117 18) - (nI 1)).toInt)) = 0 then (I_X12_findsKinds I) else (if (tq_b ((nI 0).toInt ≤ q.toInt ∧ q.toInt ≤ (nI 4).toInt)) = 0 then (I_X12_findsKinds I) else (if q = (nI 4) then (I_X12_findsKinds I) else (I_X12_findsKinds I))))
set_option maxRecDepth 20000 in
theorem c_X12_kind (g : tq_G) (I : tq_I) (J : Int64) (ly q : Int32) (k : tr_pc I) : CT g mX12_kind 2 0 0 [.ref 117, .int ly, .int q] (tq_SC ++ tq_SR) tq_RR I J (tq_ret (tq_SC ++ tq_SR) tq_RR (some (.int (r_X12_kind I ly q))) (I_X12_kind I ly q) J) := by
  refine CT.ret kX12_kind (Nat.le_of_ble_eq_true rfl) (fun x0 C hR hZ => ?_)
  refine EV_en (lv' := [some (.ref 117), some (.int ly), some (.int q)]) 0 rfl ?_
  refine EV_blk (own := 12) C rfl [(.aload_n 0, 0, 0, 0, 0)] (pc' := 1) (by decide +kernel) (lv' := [some (.ref 117), some (.int ly), some (.int q)]) (st' := [.ref 117]) (I' := I) (J' := J) rfl ?_
  refine EV_cV (own := 12) (idx := 176) (μ' := mX12_findsKinds) (b := 117) (cb := 12) (av := []) (rest := []) C hR rfl (Or.inl ⟨1213, by decide⟩) kX12_findsKinds sX12_findsKinds (c_X12_findsKinds g I J  k) rfl rfl (by decide +kernel) rfl (by decide) (Nat.le_of_ble_eq_true rfl) rfl ⟨Nat.zero_le _, Nat.zero_le _⟩ ?_
  refine EV_blk (own := 12) C rfl [(.iload_n 1, 0, 0, 0, 0), (.iconst 0, 0, 0, 0, (nI 0)), (.aload_n 0, 0, 0, 0, 0), (.getfield 173, 12, 18, 917, 0), (.iconst 1, 0, 0, 0, (nI 1)), (.isub, 0, 0, 0, 0)] (pc' := 12) (by decide +kernel) (lv' := [some (.ref 117), some (.int ly), some (.int q)]) (st' := [.int (((I_X12_findsKinds I) 117 18) - (nI 1)), .int (nI 0), .int ly]) (I' := (I_X12_findsKinds I)) (J' := J) rfl ?_
  refine EV_cS (own := 12) (idx := 62) (μ' := mX12_in) (av := [.int ly, .int (nI 0), .int (((I_X12_findsKinds I) 117 18) - (nI 1))]) (rest := []) C hR rfl (Or.inl ⟨896, by decide⟩) kX12_in sX12_in (c_X12_in g (I_X12_findsKinds I) J ly (nI 0) (((I_X12_findsKinds I) 117 18) - (nI 1)) ) (by decide +kernel) rfl (by decide) (Nat.le_of_ble_eq_true rfl) rfl ⟨Nat.zero_le _, Nat.zero_le _⟩ ?_
  refine EV_if_ne (off := 6) (tgt := 21) C (by decide +kernel) (by decide) (fun h1 => ?_) (fun h1 => ?_)
  · skip
    have hl := tr_lyx (tq_b10 h1) (tr_fkE k) (by decide)
    refine EV_blk (own := 12) C rfl [(.iload_n 2, 0, 0, 0, 0), (.iconst 0, 0, 0, 0, (nI 0)), (.iconst 4, 0, 0, 0, (nI 4))] (pc' := 24) (by decide +kernel) (lv' := [some (.ref 117), some (.int ly), some (.int q)]) (st' := [.int (nI 4), .int (nI 0), .int q]) (I' := (I_X12_findsKinds I)) (J' := J) rfl ?_
    refine EV_cS (own := 12) (idx := 62) (μ' := mX12_in) (av := [.int q, .int (nI 0), .int (nI 4)]) (rest := []) C hR rfl (Or.inl ⟨896, by decide⟩) kX12_in sX12_in (c_X12_in g (I_X12_findsKinds I) J q (nI 0) (nI 4) ) (by decide +kernel) rfl (by decide) (Nat.le_of_ble_eq_true rfl) rfl ⟨Nat.zero_le _, Nat.zero_le _⟩ ?_
    refine EV_if_ne (off := 8) (tgt := 35) C (by decide +kernel) (by decide) (fun h2 => ?_) (fun h2 => ?_)
    · skip
      refine EV_blk (own := 12) C rfl [(.iload_n 2, 0, 0, 0, 0), (.iconst 4, 0, 0, 0, (nI 4))] (pc' := 37) (by decide +kernel) (lv' := [some (.ref 117), some (.int ly), some (.int q)]) (st' := [.int (nI 4), .int q]) (I' := (I_X12_findsKinds I)) (J' := J) rfl ?_
      refine EV_icmp_ne (off := 12) (tgt := 49) C (by decide +kernel) (by decide) (fun h3 => ?_) (fun h3 => ?_)
      · skip
        refine EV_blk (own := 12) C rfl [(.aload_n 0, 0, 0, 0, 0), (.getfield 41, 12, 16, 915, 0), (.iload_n 1, 0, 0, 0, 0)] (pc' := 54) (by decide +kernel) (lv' := [some (.ref 117), some (.int ly), some (.int q)]) (st' := [.int ly, .ref 128]) (I' := (I_X12_findsKinds I)) (J' := J) rfl ?_
        refine EV_iald (j := (tq_N ly)) C (by decide +kernel) rfl (tq_NI hl.1) (by omega) ?_
        refine EV_blk (own := 12) C rfl [(.iload_n 2, 0, 0, 0, 0)] (pc' := 56) (by decide +kernel) (lv' := [some (.ref 117), some (.int ly), some (.int q)]) (st' := [.int q, .int ((I_X12_findsKinds I) 128 (tq_N ly))]) (I' := (I_X12_findsKinds I)) (J' := J) rfl ?_
        refine EV_cS (own := 12) (idx := 161) (μ' := mX12_ofPiece) (av := [.int ((I_X12_findsKinds I) 128 (tq_N ly)), .int q]) (rest := []) C hR rfl (Or.inl ⟨1170, by decide⟩) kX12_ofPiece sX12_ofPiece (c_X12_ofPiece g (I_X12_findsKinds I) J ((I_X12_findsKinds I) 128 (tq_N ly)) q ) (by decide +kernel) rfl (by decide) (Nat.le_of_ble_eq_true rfl) rfl ⟨Nat.zero_le _, Nat.zero_le _⟩ ?_
        exact EV_iret C hZ rfl (by decide +kernel) (Nat.le_refl _) (Nat.le_refl _) ⟨tq_some (by simp only [r_X12_kind, if_neg h1, if_neg h2, if_neg h3]), rfl, rfl, by simp only [I_X12_kind, if_neg h1, if_neg h2, if_neg h3], rfl⟩
      · skip
        refine EV_blk (own := 12) C rfl [(.aload_n 0, 0, 0, 0, 0), (.getfield 44, 12, 17, 916, 0), (.iload_n 1, 0, 0, 0, 0)] (pc' := 45) (by decide +kernel) (lv' := [some (.ref 117), some (.int ly), some (.int q)]) (st' := [.int ly, .ref 129]) (I' := (I_X12_findsKinds I)) (J' := J) rfl ?_
        refine EV_iald (j := (tq_N ly)) C (by decide +kernel) rfl (tq_NI hl.1) (by omega) ?_
        refine EV_blk (own := 12) C rfl [(.goto 13, 0, 0, 0, 0)] (pc' := 59) (by decide +kernel) (lv' := [some (.ref 117), some (.int ly), some (.int q)]) (st' := [.int ((I_X12_findsKinds I) 129 (tq_N ly))]) (I' := (I_X12_findsKinds I)) (J' := J) rfl ?_
        exact EV_iret C hZ rfl (by decide +kernel) (Nat.le_refl _) (Nat.le_refl _) ⟨tq_some (by simp only [r_X12_kind, if_neg h1, if_neg h2, if_pos h3]), rfl, rfl, by simp only [I_X12_kind, if_neg h1, if_neg h2, if_pos h3], rfl⟩
    · skip
      refine EV_blk (own := 12) C rfl [(.bipush (-3), 0, 0, 0, (-3)), (.goto 27, 0, 0, 0, 0)] (pc' := 59) (by decide +kernel) (lv' := [some (.ref 117), some (.int ly), some (.int q)]) (st' := [.int (-3)]) (I' := (I_X12_findsKinds I)) (J' := J) rfl ?_
      exact EV_iret C hZ rfl (by decide +kernel) (Nat.le_refl _) (Nat.le_refl _) ⟨tq_some (by simp only [r_X12_kind, if_neg h1, if_pos h2]), rfl, rfl, by simp only [I_X12_kind, if_neg h1, if_pos h2], rfl⟩
  · skip
    refine EV_blk (own := 12) C rfl [(.bipush (-2), 0, 0, 0, (-2))] (pc' := 20) (by decide +kernel) (lv' := [some (.ref 117), some (.int ly), some (.int q)]) (st' := [.int (-2)]) (I' := (I_X12_findsKinds I)) (J' := J) rfl ?_
    exact EV_iret C hZ rfl (by decide +kernel) (Nat.le_refl _) (Nat.le_refl _) ⟨tq_some (by simp only [r_X12_kind, if_pos h1]), rfl, rfl, by simp only [I_X12_kind, if_pos h1], rfl⟩
theorem fr_X12_kind (I : tq_I) (ly q : Int32) {cz : Nat} (hc : cz ≠ 117 ∧ cz ≠ 128 ∧ cz ≠ 129) (jz : Nat) : I_X12_kind I ly q cz jz = I cz jz := by
  obtain ⟨hc0, hc1, hc2⟩ := hc
  simp only [I_X12_kind]
  (repeat' split) <;> simp (disch := first | assumption | (simp only [ne_eq] at *; simp [*])) [tq_u, tq_cp, hc0, hc1, hc2, fr_X12_touches, fr_ta1, fr_X12_touchesAll, fr_cps1, fr_X12_copies, fr_sav, fr_bg1, fr_bg2, fr_X12_begins, fr_ly1, fr_X12_lays, fr_bgn1, fr_X12_begin, fr_X12_setCorner, fr_fi1, fr_X12_fill, fr_fg1, fr_X12_forgets, fr_rc1, fr_rc2, fr_X12_reaches, fr_mfl1, fr_X12_flood, fr_mrg1, fr_X12_regions, fr_mra1, fr_X12_raise, fr_sp1, fr_X12_setPath, fr_sr1, fr_sr2, fr_X12_setRank, fr_X12_becomes, fr_X12_setTiles, fr_X12_setVariants, fr_X12_setSeed, fr_X12_setBorder, fr_X12_makesUp, fr_X12_finds, fr_X12_parts, fr_put, fr_mfy2, fr_X12_findsLayers, fr_mfp1, fr_mfp2, fr_X12_findsPieces, fr_X12_layers, fr_X12_layer, fr_X12_pieces, fr_X12_piece, fr_X12_isStaleAt, fr_mpa1, fr_X12_paints, fr_X12_isStale, fr_mst2, fr_X12_stale, fr_mpt1, fr_X12_paint, fr_X12_paintCell, fr_mfk2, fr_mfk3, fr_X12_findsKinds, fr_X12_kinds]
def r_X12_undo (I : tq_I) (s : Nat) : Int32 := (if (I 117 1) = 0 then (-4) else ((tq_u (tq_cp I 118 (1343 * s) 118 (1343 * 0) 1343) 117 1 (((tq_cp I 118 (1343 * s) 118 (1343 * 0) 1343) 117 1) - (nI 1))) 117 1))
def I_X12_undo (I : tq_I) (s : Nat) : tq_I := (if (I 117 1) = 0 then I else (tq_u (tq_cp I 118 (1343 * s) 118 (1343 * 0) 1343) 117 1 (((tq_cp I 118 (1343 * s) 118 (1343 * 0) 1343) 117 1) - (nI 1))))
set_option maxRecDepth 20000 in
theorem c_X12_undo (g : tq_G) (I : tq_I) (J : Int64) (s : Nat) (hs : I 117 1 = nI s) (hs5 : s ≤ 5) : CT g mX12_undo 1 0 0 [.ref 117] (tq_SC ++ tq_SR) tq_RR I J (tq_ret (tq_SC ++ tq_SR) tq_RR (some (.int (r_X12_undo I s))) (I_X12_undo I s) J) := by
  refine CT.ret kX12_undo (Nat.le_of_ble_eq_true rfl) (fun x0 C hR hZ => ?_)
  refine EV_en (lv' := [some (.ref 117)]) 0 rfl ?_
  refine EV_blk (own := 12) C rfl [(.aload_n 0, 0, 0, 0, 0), (.getfield 55, 12, 1, 900, 0)] (pc' := 4) (by decide +kernel) (lv' := [some (.ref 117)]) (st' := [.int (I 117 1)]) (I' := I) (J' := J) rfl ?_
  refine EV_if_ne (off := 6) (tgt := 10) C (by decide +kernel) (by decide) (fun h1 => ?_) (fun h1 => ?_)
  · skip
    have hs0 : s ≠ 0 := fun e => h1 (by rw [hs, e]; decide)
    refine EV_blk (own := 12) C rfl [(.aload_n 0, 0, 0, 0, 0), (.aload_n 0, 0, 0, 0, 0), (.getfield 55, 12, 1, 900, 0), (.iconst 0, 0, 0, 0, (nI 0))] (pc' := 16) (by decide +kernel) (lv' := [some (.ref 117)]) (st' := [.int (nI 0), .int (I 117 1), .ref 117]) (I' := I) (J' := J) rfl ?_
    refine EV_ste (st' := [.int (nI 0), .int (nI s), .ref 117]) (by rw [hs]) ?_
    refine EV_cV (own := 12) (idx := 59) (μ' := mX12_copies) (b := 117) (cb := 12) (av := [.int (nI s), .int (nI 0)]) (rest := []) C hR rfl (Or.inl ⟨990, by decide⟩) kX12_copies sX12_copies (c_copies g I J s 0 (by omega) (by omega) (by omega)) rfl rfl (by decide +kernel) rfl (by decide) (Nat.le_of_ble_eq_true rfl) rfl ⟨Nat.zero_le _, Nat.zero_le _⟩ ?_
    refine EV_blk (own := 12) C rfl [(.aload_n 0, 0, 0, 0, 0), (.dup, 0, 0, 0, 0), (.getfield 55, 12, 1, 900, 0), (.iconst 1, 0, 0, 0, (nI 1)), (.isub, 0, 0, 0, 0), (.putfield 55, 12, 1, 900, 0), (.aload_n 0, 0, 0, 0, 0), (.getfield 55, 12, 1, 900, 0)] (pc' := 33) (by decide +kernel) (lv' := [some (.ref 117)]) (st' := [.int ((tq_u (tq_cp I 118 (1343 * s) 118 (1343 * 0) 1343) 117 1 (((tq_cp I 118 (1343 * s) 118 (1343 * 0) 1343) 117 1) - (nI 1))) 117 1)]) (I' := (tq_u (tq_cp I 118 (1343 * s) 118 (1343 * 0) 1343) 117 1 (((tq_cp I 118 (1343 * s) 118 (1343 * 0) 1343) 117 1) - (nI 1)))) (J' := J) rfl ?_
    exact EV_iret C hZ rfl (by decide +kernel) (Nat.le_refl _) (Nat.le_refl _) ⟨tq_some (by simp only [r_X12_undo, if_neg h1]), rfl, rfl, by simp only [I_X12_undo, if_neg h1], rfl⟩
  · skip
    refine EV_blk (own := 12) C rfl [(.bipush (-4), 0, 0, 0, (-4))] (pc' := 9) (by decide +kernel) (lv' := [some (.ref 117)]) (st' := [.int (-4)]) (I' := I) (J' := J) rfl ?_
    exact EV_iret C hZ rfl (by decide +kernel) (Nat.le_refl _) (Nat.le_refl _) ⟨tq_some (by simp only [r_X12_undo, if_pos h1]), rfl, rfl, by simp only [I_X12_undo, if_pos h1], rfl⟩
theorem fr_X12_undo (I : tq_I) (s : Nat) {cz : Nat} (hc : cz ≠ 117 ∧ cz ≠ 118) (jz : Nat) : I_X12_undo I s cz jz = I cz jz := by
  obtain ⟨hc0, hc1⟩ := hc
  simp only [I_X12_undo]
  (repeat' split) <;> simp (disch := first | assumption | (simp only [ne_eq] at *; simp [*])) [tq_u, tq_cp, hc0, hc1, fr_X12_touches, fr_ta1, fr_X12_touchesAll, fr_cps1, fr_X12_copies, fr_sav, fr_bg1, fr_bg2, fr_X12_begins, fr_ly1, fr_X12_lays, fr_bgn1, fr_X12_begin, fr_X12_setCorner, fr_fi1, fr_X12_fill, fr_fg1, fr_X12_forgets, fr_rc1, fr_rc2, fr_X12_reaches, fr_mfl1, fr_X12_flood, fr_mrg1, fr_X12_regions, fr_mra1, fr_X12_raise, fr_sp1, fr_X12_setPath, fr_sr1, fr_sr2, fr_X12_setRank, fr_X12_becomes, fr_X12_setTiles, fr_X12_setVariants, fr_X12_setSeed, fr_X12_setBorder, fr_X12_makesUp, fr_X12_finds, fr_X12_parts, fr_put, fr_mfy2, fr_X12_findsLayers, fr_mfp1, fr_mfp2, fr_X12_findsPieces, fr_X12_layers, fr_X12_layer, fr_X12_pieces, fr_X12_piece, fr_X12_isStaleAt, fr_mpa1, fr_X12_paints, fr_X12_isStale, fr_mst2, fr_X12_stale, fr_mpt1, fr_X12_paint, fr_X12_paintCell, fr_mfk2, fr_mfk3, fr_X12_findsKinds, fr_X12_kinds, fr_X12_kind]
