/-! Sketch: 102, cornerRanks 103, layerTerrains 104, layerMasks 105, pieceCodes 106; fields layerCount 3, pieceCount 5, tileOfPath 6 -/
def r_X11_codeOfPiece (t tile turn v : Int32) : Int32 := (if tile = (nI 15) then ((t * (nI 64)) + ((nI 56) + v)) else ((t * (nI 64)) + (((tile - (nI 1)) * (nI 4)) + turn)))
set_option maxRecDepth 20000 in
theorem c_X11_codeOfPiece (g : tq_G) (rest : List tq_S) (I : tq_I) (J : Int64) (t tile turn v : Int32)  : CT g mX11_codeOfPiece 0 0 0 [.int t, .int tile, .int turn, .int v] (tq_SC ++ rest) tq_RR I J (tq_ret (tq_SC ++ rest) tq_RR (some (.int (r_X11_codeOfPiece t tile turn v))) I J) := by
  refine CT.ret kX11_codeOfPiece (Nat.le_of_ble_eq_true rfl) (fun x0 C hR hZ => ?_)
  refine EV_en (lv' := [some (.int t), some (.int tile), some (.int turn), some (.int v), none]) 1 rfl ?_
  refine EV_blk (own := 11) C rfl [(.iload_n 1, 0, 0, 0, 0), (.bipush 15, 0, 0, 0, (nI 15))] (pc' := 3) (by decide +kernel) (lv' := [some (.int t), some (.int tile), some (.int turn), some (.int v), none]) (st' := [.int (nI 15), .int tile]) (I' := I) (J' := J) rfl ?_
  refine EV_icmp_ne (off := 10) (tgt := 13) C (by decide +kernel) (by decide) (fun h1 => ?_) (fun h1 => ?_)
  · skip
    refine EV_blk (own := 11) C rfl [(.iload_n 1, 0, 0, 0, 0), (.iconst 1, 0, 0, 0, (nI 1)), (.isub, 0, 0, 0, 0), (.iconst 4, 0, 0, 0, (nI 4)), (.imul, 0, 0, 0, 0), (.iload_n 2, 0, 0, 0, 0), (.iadd, 0, 0, 0, 0), (.istore 4, 0, 0, 0, 0), (.iload_n 0, 0, 0, 0, 0), (.bipush 64, 0, 0, 0, (nI 64)), (.imul, 0, 0, 0, 0), (.iload 4, 0, 0, 0, 0), (.iadd, 0, 0, 0, 0)] (pc' := 29) (by decide +kernel) (lv' := [some (.int t), some (.int tile), some (.int turn), some (.int v), some (.int (((tile - (nI 1)) * (nI 4)) + turn))]) (st' := [.int ((t * (nI 64)) + (((tile - (nI 1)) * (nI 4)) + turn))]) (I' := I) (J' := J) rfl ?_
    exact EV_iret C hZ rfl (by decide +kernel) (Nat.le_refl _) (Nat.le_refl _) ⟨tq_some (by simp only [r_X11_codeOfPiece, if_neg h1]), rfl, rfl, rfl, rfl⟩
  · skip
    refine EV_blk (own := 11) C rfl [(.bipush 56, 0, 0, 0, (nI 56)), (.iload_n 3, 0, 0, 0, 0), (.iadd, 0, 0, 0, 0), (.goto 10, 0, 0, 0, 0), (.istore 4, 0, 0, 0, 0), (.iload_n 0, 0, 0, 0, 0), (.bipush 64, 0, 0, 0, (nI 64)), (.imul, 0, 0, 0, 0), (.iload 4, 0, 0, 0, 0), (.iadd, 0, 0, 0, 0)] (pc' := 29) (by decide +kernel) (lv' := [some (.int t), some (.int tile), some (.int turn), some (.int v), some (.int ((nI 56) + v))]) (st' := [.int ((t * (nI 64)) + ((nI 56) + v))]) (I' := I) (J' := J) rfl ?_
    exact EV_iret C hZ rfl (by decide +kernel) (Nat.le_refl _) (Nat.le_refl _) ⟨tq_some (by simp only [r_X11_codeOfPiece, if_pos h1]), rfl, rfl, rfl, rfl⟩
def f_rk1 (I : tq_I) (r : Nat) (i : Nat) : Option Int32 := (if (I 103 i) = (nI r) then (some (nI 1)) else none)
set_option maxRecDepth 20000 in
theorem lp_rk1 {g : tq_G} {rest : List tq_S} {x0 : tq_X} {res : Int32} (I : tq_I) (J : Int64) (C : tq_C g mX7_isRankOfCorner x0) (hR : tq_ht x0 0 0 0) (hZ : tq_end g x0 (tq_ret (tq_SC ++ rest) tq_RR (some (.int res)) I J) 0 0) (r : Nat)  : ∀ (n i : Nat), i + n = 4 → res = tq_sr (f_rk1 I r) n i (nI 0) → (res = (nI 0) → EV g mX7_isRankOfCorner x0 0 0 25 [some (.ref 102), some (.int (nI r)), none] [] (tq_SC ++ rest) tq_RR I J) → EV g mX7_isRankOfCorner x0 0 0 2 [some (.ref 102), some (.int (nI r)), some (.int (nI i))] [] (tq_SC ++ rest) tq_RR I J := by
  intro n
  induction n with
  | zero =>
    intro i hi hr kk
    refine EV_blk (own := 7) C rfl [(.iload_n 2, 0, 0, 0, 0), (.iconst 4, 0, 0, 0, (nI 4))] (pc' := 4) (by decide +kernel) (lv' := [some (.ref 102), some (.int (nI r)), some (.int (nI i))]) (st' := [.int (nI 4), .int (nI i)]) (I' := I) (J' := J) rfl ?_
    refine EV_icmp_ge (off := 21) (tgt := 25) C (by decide +kernel) (by decide) (fun h1 => ?_) (fun h1 => ?_)
    · skip
      exact EV_fg (lv' := [some (.ref 102), some (.int (nI r)), none]) ⟨rfl, rfl, trivial⟩ (kk hr)
    · skip
      exact absurd h1 (by simp (disch := omega) only [Int32.lt_iff_toInt_lt, Int32.le_iff_toInt_le, Int32.toInt_zero, nI_toInt, tq_m1]; omega)
  | succ n ih =>
    intro i hi hr kk
    refine EV_blk (own := 7) C rfl [(.iload_n 2, 0, 0, 0, 0), (.iconst 4, 0, 0, 0, (nI 4))] (pc' := 4) (by decide +kernel) (lv' := [some (.ref 102), some (.int (nI r)), some (.int (nI i))]) (st' := [.int (nI 4), .int (nI i)]) (I' := I) (J' := J) rfl ?_
    refine EV_icmp_ge (off := 21) (tgt := 25) C (by decide +kernel) (by decide) (fun h1 => ?_) (fun h1 => ?_)
    · skip
      exact absurd h1 (by simp (disch := omega) only [Int32.lt_iff_toInt_lt, Int32.le_iff_toInt_le, Int32.toInt_zero, nI_toInt, tq_m1]; omega)
    · skip
      refine EV_blk (own := 7) C rfl [(.aload_n 0, 0, 0, 0, 0), (.getfield 9, 7, 0, 250, 0), (.iload_n 2, 0, 0, 0, 0)] (pc' := 12) (by decide +kernel) (lv' := [some (.ref 102), some (.int (nI r)), some (.int (nI i))]) (st' := [.int (nI i), .ref 103]) (I' := I) (J' := J) rfl ?_
      refine EV_iald (j := i) C (by decide +kernel) rfl (nI_toInt (by omega)) (by omega) ?_
      refine EV_blk (own := 7) C rfl [(.iload_n 1, 0, 0, 0, 0)] (pc' := 14) (by decide +kernel) (lv' := [some (.ref 102), some (.int (nI r)), some (.int (nI i))]) (st' := [.int (nI r), .int (I 103 i)]) (I' := I) (J' := J) rfl ?_
      refine EV_icmp_ne (off := 5) (tgt := 19) C (by decide +kernel) (by decide) (fun h2 => ?_) (fun h2 => ?_)
      · skip
        refine EV_blk (own := 7) C rfl [(.iinc 2 1, 0, 0, 0, (nI 1)), (.goto (-20), 0, 0, 0, 0)] (pc' := 2) (by decide +kernel) (lv' := [some (.ref 102), some (.int (nI r)), some (.int ((nI i) + (nI 1)))]) (st' := []) (I' := I) (J' := J) rfl ?_
        rw [show ((nI i) + (nI 1)) = (nI (i + 1)) from by simp (disch := omega) only [nI_add, tq_mul] <;> exact congrArg nI (by omega)]
        exact ih (i + 1) (by omega) (hr.trans (tq_sr_none (show (f_rk1 I r) i = none from by simp only [f_rk1, if_neg h1, if_neg h2]))) kk
      · skip
        refine EV_blk (own := 7) C rfl [(.iconst 1, 0, 0, 0, (nI 1))] (pc' := 18) (by decide +kernel) (lv' := [some (.ref 102), some (.int (nI r)), some (.int (nI i))]) (st' := [.int (nI 1)]) (I' := I) (J' := J) rfl ?_
        exact EV_zret C hZ rfl (by decide) (by decide +kernel) (Nat.le_refl _) (Nat.le_refl _) ⟨tq_some ((hr.trans (tq_sr_some (show (f_rk1 I r) i = some (nI 1) from by simp only [f_rk1, if_neg h1, if_pos h2]))).symm), rfl, rfl, rfl, rfl⟩
def r_X7_isRankOfCorner (I : tq_I) (r : Nat) : Int32 := (tq_sr (f_rk1 I r) 4 0 (nI 0))
set_option maxRecDepth 20000 in
theorem c_X7_isRankOfCorner (g : tq_G) (rest : List tq_S) (I : tq_I) (J : Int64) (r : Nat)  : CT g mX7_isRankOfCorner 0 0 0 [.ref 102, .int (nI r)] (tq_SC ++ rest) tq_RR I J (tq_ret (tq_SC ++ rest) tq_RR (some (.int (r_X7_isRankOfCorner I r))) I J) := by
  refine CT.ret kX7_isRankOfCorner (Nat.le_of_ble_eq_true rfl) (fun x0 C hR hZ => ?_)
  refine EV_en (lv' := [some (.ref 102), some (.int (nI r)), none]) 1 rfl ?_
  refine EV_blk (own := 7) C rfl [(.iconst 0, 0, 0, 0, (nI 0)), (.istore_n 2, 0, 0, 0, 0)] (pc' := 2) (by decide +kernel) (lv' := [some (.ref 102), some (.int (nI r)), some (.int (nI 0))]) (st' := []) (I' := I) (J' := J) rfl ?_
  refine lp_rk1 I J C hR hZ r  4 0 (by omega) (by simp only [r_X7_isRankOfCorner]) (fun hd => ?_)
  refine EV_blk (own := 7) C rfl [(.iconst 0, 0, 0, 0, (nI 0))] (pc' := 26) (by decide +kernel) (lv' := [some (.ref 102), some (.int (nI r)), none]) (st' := [.int (nI 0)]) (I' := I) (J' := J) rfl ?_
  exact EV_zret C hZ rfl (by decide) (by decide +kernel) (Nat.le_refl _) (Nat.le_refl _) ⟨tq_some hd.symm, rfl, rfl, rfl, rfl⟩
def f_mf1 (I : tq_I) (r : Nat) (i : Nat) (a : Int32) : Int32 := (if (I 103 i) < (nI r) then a else (a ||| ((nI 1) <<< ((nI i) &&& 31))))
set_option maxRecDepth 20000 in
theorem lp_mf1 {g : tq_G} {rest : List tq_S} {x0 : tq_X} (C : tq_C g mX7_maskFrom x0) (hR : tq_ht x0 0 0 0) (I : tq_I) (J : Int64) (r : Nat)  : ∀ (n i : Nat) (a : Int32), i + n = 4 → EV g mX7_maskFrom x0 0 0 31 [some (.ref 102), some (.int (nI r)), some (.int (tq_it (f_mf1 I r) n i a)), some (.int (nI (i + n)))] [] (tq_SC ++ rest) tq_RR I J → EV g mX7_maskFrom x0 0 0 4 [some (.ref 102), some (.int (nI r)), some (.int a), some (.int (nI i))] [] (tq_SC ++ rest) tq_RR I J := by
  intro n
  induction n with
  | zero =>
    intro i a hi kk
    rw [Nat.add_zero] at kk
    refine EV_blk (own := 7) C rfl [(.iload_n 3, 0, 0, 0, 0), (.iconst 4, 0, 0, 0, (nI 4))] (pc' := 6) (by decide +kernel) (lv' := [some (.ref 102), some (.int (nI r)), some (.int a), some (.int (nI i))]) (st' := [.int (nI 4), .int (nI i)]) (I' := I) (J' := J) rfl ?_
    refine EV_icmp_ge (off := 25) (tgt := 31) C (by decide +kernel) (by decide) (fun h1 => ?_) (fun h1 => ?_)
    · skip
      exact kk
    · skip
      exact absurd h1 (by simp (disch := omega) only [Int32.lt_iff_toInt_lt, Int32.le_iff_toInt_le, Int32.toInt_zero, nI_toInt, tq_m1]; omega)
  | succ n ih =>
    intro i a hi kk
    rw [show i + (n + 1) = (i + 1) + n by omega] at kk
    refine EV_blk (own := 7) C rfl [(.iload_n 3, 0, 0, 0, 0), (.iconst 4, 0, 0, 0, (nI 4))] (pc' := 6) (by decide +kernel) (lv' := [some (.ref 102), some (.int (nI r)), some (.int a), some (.int (nI i))]) (st' := [.int (nI 4), .int (nI i)]) (I' := I) (J' := J) rfl ?_
    refine EV_icmp_ge (off := 25) (tgt := 31) C (by decide +kernel) (by decide) (fun h1 => ?_) (fun h1 => ?_)
    · skip
      exact absurd h1 (by simp (disch := omega) only [Int32.lt_iff_toInt_lt, Int32.le_iff_toInt_le, Int32.toInt_zero, nI_toInt, tq_m1]; omega)
    · skip
      refine EV_blk (own := 7) C rfl [(.aload_n 0, 0, 0, 0, 0), (.getfield 9, 7, 0, 250, 0), (.iload_n 3, 0, 0, 0, 0)] (pc' := 14) (by decide +kernel) (lv' := [some (.ref 102), some (.int (nI r)), some (.int a), some (.int (nI i))]) (st' := [.int (nI i), .ref 103]) (I' := I) (J' := J) rfl ?_
      refine EV_iald (j := i) C (by decide +kernel) rfl (nI_toInt (by omega)) (by omega) ?_
      refine EV_blk (own := 7) C rfl [(.iload_n 1, 0, 0, 0, 0)] (pc' := 16) (by decide +kernel) (lv' := [some (.ref 102), some (.int (nI r)), some (.int a), some (.int (nI i))]) (st' := [.int (nI r), .int (I 103 i)]) (I' := I) (J' := J) rfl ?_
      refine EV_icmp_lt (off := 9) (tgt := 25) C (by decide +kernel) (by decide) (fun h2 => ?_) (fun h2 => ?_)
      · skip
        refine EV_blk (own := 7) C rfl [(.iinc 3 1, 0, 0, 0, (nI 1)), (.goto (-24), 0, 0, 0, 0)] (pc' := 4) (by decide +kernel) (lv' := [some (.ref 102), some (.int (nI r)), some (.int a), some (.int ((nI i) + (nI 1)))]) (st' := []) (I' := I) (J' := J) rfl ?_
        rw [show ((nI i) + (nI 1)) = (nI (i + 1)) from by simp (disch := omega) only [nI_add, tq_mul] <;> exact congrArg nI (by omega)]
        rw [tq_its, show (f_mf1 I r) i a = a from by simp only [f_mf1, if_neg h1, if_pos h2]] at kk
        exact ih (i + 1) a (by omega) kk
      · skip
        refine EV_blk (own := 7) C rfl [(.iload_n 2, 0, 0, 0, 0), (.iconst 1, 0, 0, 0, (nI 1)), (.iload_n 3, 0, 0, 0, 0), (.ishl, 0, 0, 0, 0), (.ior, 0, 0, 0, 0), (.istore_n 2, 0, 0, 0, 0), (.iinc 3 1, 0, 0, 0, (nI 1)), (.goto (-24), 0, 0, 0, 0)] (pc' := 4) (by decide +kernel) (lv' := [some (.ref 102), some (.int (nI r)), some (.int (a ||| ((nI 1) <<< ((nI i) &&& 31)))), some (.int ((nI i) + (nI 1)))]) (st' := []) (I' := I) (J' := J) rfl ?_
        rw [show ((nI i) + (nI 1)) = (nI (i + 1)) from by simp (disch := omega) only [nI_add, tq_mul] <;> exact congrArg nI (by omega)]
        rw [tq_its, show (f_mf1 I r) i a = (a ||| ((nI 1) <<< ((nI i) &&& 31))) from by simp only [f_mf1, if_neg h1, if_neg h2]] at kk
        exact ih (i + 1) (a ||| ((nI 1) <<< ((nI i) &&& 31))) (by omega) kk
def r_X7_maskFrom (I : tq_I) (r : Nat) : Int32 := (tq_it (f_mf1 I r) 4 0 (nI 0))
set_option maxRecDepth 20000 in
theorem c_X7_maskFrom (g : tq_G) (rest : List tq_S) (I : tq_I) (J : Int64) (r : Nat)  : CT g mX7_maskFrom 0 0 0 [.ref 102, .int (nI r)] (tq_SC ++ rest) tq_RR I J (tq_ret (tq_SC ++ rest) tq_RR (some (.int (r_X7_maskFrom I r))) I J) := by
  refine CT.ret kX7_maskFrom (Nat.le_of_ble_eq_true rfl) (fun x0 C hR hZ => ?_)
  refine EV_en (lv' := [some (.ref 102), some (.int (nI r)), none, none]) 2 rfl ?_
  refine EV_blk (own := 7) C rfl [(.iconst 0, 0, 0, 0, (nI 0)), (.istore_n 2, 0, 0, 0, 0), (.iconst 0, 0, 0, 0, (nI 0)), (.istore_n 3, 0, 0, 0, 0)] (pc' := 4) (by decide +kernel) (lv' := [some (.ref 102), some (.int (nI r)), some (.int (nI 0)), some (.int (nI 0))]) (st' := []) (I' := I) (J' := J) rfl ?_
  refine lp_mf1 C hR I J r  4 0 (nI 0) (by omega) ?_
  refine EV_blk (own := 7) C rfl [(.iload_n 2, 0, 0, 0, 0)] (pc' := 32) (by decide +kernel) (lv' := [some (.ref 102), some (.int (nI r)), some (.int (tq_it (f_mf1 I r) 4 0 (nI 0))), some (.int (nI ((0 + 4))))]) (st' := [.int (tq_it (f_mf1 I r) 4 0 (nI 0))]) (I' := I) (J' := J) rfl ?_
  exact EV_iret C hZ rfl (by decide +kernel) (Nat.le_refl _) (Nat.le_refl _) ⟨tq_some (by simp only [r_X7_maskFrom]), rfl, rfl, rfl, rfl⟩
theorem tq_mask15 (I : tq_I) (r : Nat) : 0 ≤ (r_X7_maskFrom I r).toInt ∧ (r_X7_maskFrom I r).toInt ≤ 15 := by
  simp only [r_X7_maskFrom, tq_it, f_mf1]
  split <;> split <;> split <;> split <;> decide
theorem tq_rk01 (I : tq_I) (r : Nat) : r_X7_isRankOfCorner I r = 0 ∨ r_X7_isRankOfCorner I r = 1 := by
  have h : ∀ n i, tq_sr (f_rk1 I r) n i (nI 0) = 0 ∨ tq_sr (f_rk1 I r) n i (nI 0) = 1 := by
    intro n
    induction n with
    | zero => intro i; exact Or.inl rfl
    | succ n ih =>
      intro i
      simp only [tq_sr, f_rk1]
      split
      · rename_i v hv
        split at hv
        · cases hv; exact Or.inr rfl
        · cases hv
      · exact ih _
  exact h 4 0
set_option maxRecDepth 20000 in
theorem cI_X6_rankOf (g : tq_G) (rest : List tq_S) (I : tq_I) (J : Int64) (t : Int32) (h0 : 0 ≤ t.toInt) (h5 : t.toInt ≤ 5) : CT g mX6_rankOf 0 0 0 [.ref 5, .int t] (tq_SC ++ rest) tq_RR I J (tq_ret (tq_SC ++ rest) tq_RR (some (.int (I 6 (tq_N t)))) I J) := by
  refine CT.ret kX6_rankOf (Nat.le_of_ble_eq_true rfl) (fun x0 C hR hZ => ?_)
  refine EV_en (lv' := [some (.ref 5), some (.int t)]) 0 rfl ?_
  refine EV_blk (own := 6) C rfl [(.aload_n 0, 0, 0, 0, 0), (.getfield 9, 6, 0, 142, 0), (.iload_n 1, 0, 0, 0, 0)] (pc' := 5) (by decide +kernel) (lv' := [some (.ref 5), some (.int t)]) (st' := [.int t, .ref 6]) (I' := I) (J' := J) rfl ?_
  refine EV_iald (j := (tq_N t)) C (by decide +kernel) rfl (by unfold tq_N; omega) (by unfold tq_N; omega) ?_
  exact EV_iret C hZ rfl (by decide +kernel) (Nat.le_refl _) (Nat.le_refl _) ⟨rfl, rfl, rfl, rfl, rfl⟩
def f_dl1 (x y : Nat) (i : Nat) (a : tq_I) : tq_I := (tq_u a 103 i (a 6 (tq_N (a 3 ((y + (i / 2)) * 11 + (x + (i % 2)))))))
set_option maxRecDepth 20000 in
theorem lp_dl1 {g : tq_G} {rest : List tq_S} {x0 : tq_X} (C : tq_C g mX7_drawLayers x0) (hR : tq_ht x0 2 0 0) (J : Int64) (x y : Nat) (hx : x ≤ 9) (hy : y ≤ 9) : ∀ (n i : Nat) (a : tq_I), i + n = 4 → (∀ i, i < 4 → 0 ≤ (a 3 ((y + i / 2) * 11 + (x + i % 2))).toInt ∧ (a 3 ((y + i / 2) * 11 + (x + i % 2))).toInt ≤ 5) → EV g mX7_drawLayers x0 0 0 52 [some (.ref 102), some (.ref 1), some (.int (nI x)), some (.int (nI y)), some (.int (nI (i + n))), none] [] (tq_SC ++ rest) tq_RR (tq_it (f_dl1 x y) n i a) J → EV g mX7_drawLayers x0 0 0 3 [some (.ref 102), some (.ref 1), some (.int (nI x)), some (.int (nI y)), some (.int (nI i)), none] [] (tq_SC ++ rest) tq_RR a J := by
  intro n
  induction n with
  | zero =>
    intro i a hi hI kk
    rw [Nat.add_zero] at kk
    refine EV_blk (own := 7) C rfl [(.iload 4, 0, 0, 0, 0), (.iconst 4, 0, 0, 0, (nI 4))] (pc' := 6) (by decide +kernel) (lv' := [some (.ref 102), some (.ref 1), some (.int (nI x)), some (.int (nI y)), some (.int (nI i)), none]) (st' := [.int (nI 4), .int (nI i)]) (I' := a) (J' := J) rfl ?_
    refine EV_icmp_ge (off := 46) (tgt := 52) C (by decide +kernel) (by decide) (fun h1 => ?_) (fun h1 => ?_)
    · skip
      exact kk
    · skip
      exact absurd h1 (by simp (disch := omega) only [Int32.lt_iff_toInt_lt, Int32.le_iff_toInt_le, Int32.toInt_zero, nI_toInt, tq_m1]; omega)
  | succ n ih =>
    intro i a hi hI kk
    rw [show i + (n + 1) = (i + 1) + n by omega] at kk
    refine EV_blk (own := 7) C rfl [(.iload 4, 0, 0, 0, 0), (.iconst 4, 0, 0, 0, (nI 4))] (pc' := 6) (by decide +kernel) (lv' := [some (.ref 102), some (.ref 1), some (.int (nI x)), some (.int (nI y)), some (.int (nI i)), none]) (st' := [.int (nI 4), .int (nI i)]) (I' := a) (J' := J) rfl ?_
    refine EV_icmp_ge (off := 46) (tgt := 52) C (by decide +kernel) (by decide) (fun h1 => ?_) (fun h1 => ?_)
    · skip
      exact absurd h1 (by simp (disch := omega) only [Int32.lt_iff_toInt_lt, Int32.le_iff_toInt_le, Int32.toInt_zero, nI_toInt, tq_m1]; omega)
    · skip
      refine EV_blk (own := 7) C rfl [(.aload_n 1, 0, 0, 0, 0), (.getfield 45, 8, 0, 192, 0), (.iload_n 2, 0, 0, 0, 0), (.iload 4, 0, 0, 0, 0), (.iconst 2, 0, 0, 0, (nI 2))] (pc' := 17) (by decide +kernel) (lv' := [some (.ref 102), some (.ref 1), some (.int (nI x)), some (.int (nI y)), some (.int (nI i)), none]) (st' := [.int (nI 2), .int (nI i), .int (nI x), .ref 2]) (I' := a) (J' := J) rfl ?_
      refine EV_irem C (by decide +kernel) (by decide) ?_
      refine EV_blk (own := 7) C rfl [(.iadd, 0, 0, 0, 0), (.iload_n 3, 0, 0, 0, 0), (.iload 4, 0, 0, 0, 0), (.iconst 2, 0, 0, 0, (nI 2))] (pc' := 23) (by decide +kernel) (lv' := [some (.ref 102), some (.ref 1), some (.int (nI x)), some (.int (nI y)), some (.int (nI i)), none]) (st' := [.int (nI 2), .int (nI i), .int (nI y), .int ((nI x) + (tq_rem (nI i) (nI 2))), .ref 2]) (I' := a) (J' := J) rfl ?_
      refine EV_idiv C (by decide +kernel) (by decide) ?_
      refine EV_blk (own := 7) C rfl [(.iadd, 0, 0, 0, 0)] (pc' := 25) (by decide +kernel) (lv' := [some (.ref 102), some (.ref 1), some (.int (nI x)), some (.int (nI y)), some (.int (nI i)), none]) (st' := [.int ((nI y) + ((nI i) / (nI 2))), .int ((nI x) + (tq_rem (nI i) (nI 2))), .ref 2]) (I' := a) (J' := J) rfl ?_
      rw [show ((nI y) + ((nI i) / (nI 2))) = (nI (y + (i / 2))) from by simp (disch := omega) only [nI_add, tq_mul, tq_rem_nI, tq_div_nI, tq_sub_nI]]
      rw [show ((nI x) + (tq_rem (nI i) (nI 2))) = (nI (x + (i % 2))) from by simp (disch := omega) only [nI_add, tq_mul, tq_rem_nI, tq_div_nI, tq_sub_nI]]
      refine EV_cV (own := 7) (idx := 64) (μ' := mX3_terrainAt) (b := 2) (cb := 3) (av := [.int (nI (x + (i % 2))), .int (nI (y + (i / 2)))]) (rest := []) C hR rfl (Or.inl ⟨672, by decide⟩) kX3_terrainAt sX3_terrainAt (c_X3_terrainAt g rest a J (x + (i % 2)) (y + (i / 2)) (by omega) (by omega)) rfl rfl (by decide +kernel) rfl (by decide) (Nat.le_of_ble_eq_true rfl) rfl ⟨Nat.zero_le _, Nat.zero_le _⟩ ?_
      refine EV_blk (own := 7) C rfl [(.istore 5, 0, 0, 0, 0), (.aload_n 0, 0, 0, 0, 0), (.getfield 9, 7, 0, 250, 0), (.iload 4, 0, 0, 0, 0), (.aload_n 1, 0, 0, 0, 0), (.getfield 35, 8, 1, 195, 0), (.iload 5, 0, 0, 0, 0)] (pc' := 42) (by decide +kernel) (lv' := [some (.ref 102), some (.ref 1), some (.int (nI x)), some (.int (nI y)), some (.int (nI i)), some (.int (a 3 ((y + (i / 2)) * 11 + (x + (i % 2)))))]) (st' := [.int (a 3 ((y + (i / 2)) * 11 + (x + (i % 2)))), .ref 5, .int (nI i), .ref 103]) (I' := a) (J' := J) rfl ?_
      refine EV_cV (own := 7) (idx := 68) (μ' := mX6_rankOf) (b := 5) (cb := 6) (av := [.int (a 3 ((y + (i / 2)) * 11 + (x + (i % 2))))]) (rest := [.int (nI i), .ref 103]) C hR rfl (Or.inl ⟨673, by decide⟩) kX6_rankOf sX6_rankOf (cI_X6_rankOf g rest a J (a 3 ((y + (i / 2)) * 11 + (x + (i % 2)))) (hI i (by omega)).1 (hI i (by omega)).2) rfl rfl (by decide +kernel) rfl (by decide) (Nat.le_of_ble_eq_true rfl) rfl ⟨Nat.zero_le _, Nat.zero_le _⟩ ?_
      refine EV_iast (j := i) C (by decide +kernel) rfl (nI_toInt (by omega)) (by omega) ?_
      refine EV_blk (own := 7) C rfl [(.iinc 4 1, 0, 0, 0, (nI 1)), (.goto (-46), 0, 0, 0, 0)] (pc' := 3) (by decide +kernel) (lv' := [some (.ref 102), some (.ref 1), some (.int (nI x)), some (.int (nI y)), some (.int ((nI i) + (nI 1))), some (.int (a 3 ((y + (i / 2)) * 11 + (x + (i % 2)))))]) (st' := []) (I' := (tq_u a 103 i (a 6 (tq_N (a 3 ((y + (i / 2)) * 11 + (x + (i % 2)))))))) (J' := J) rfl ?_
      refine EV_fg (lv' := [some (.ref 102), some (.ref 1), some (.int (nI x)), some (.int (nI y)), some (.int ((nI i) + (nI 1))), none]) ⟨rfl, rfl, rfl, rfl, rfl, trivial⟩ ?_
      rw [show ((nI i) + (nI 1)) = (nI (i + 1)) from by simp (disch := omega) only [nI_add, tq_mul] <;> exact congrArg nI (by omega)]
      rw [tq_its, show (f_dl1 x y) i a = (tq_u a 103 i (a 6 (tq_N (a 3 ((y + (i / 2)) * 11 + (x + (i % 2))))))) from by simp only [f_dl1, if_neg h1]] at kk
      exact ih (i + 1) (tq_u a 103 i (a 6 (tq_N (a 3 ((y + (i / 2)) * 11 + (x + (i % 2))))))) (by omega) hI kk
theorem fr_dl1 (x y : Nat) {cz : Nat} (hc : cz ≠ 103) (n i : Nat) (a : tq_I) (jz : Nat) : (tq_it (f_dl1 x y) n i a) cz jz = a cz jz := by
  have hc0 := hc
  refine tq_itF (fun i a j => ?_) n i a jz
  simp only [f_dl1]
  (repeat' split) <;> simp (disch := first | assumption | (simp only [ne_eq] at *; simp [*])) [tq_u, tq_cp, hc0, fr_tb1, fr_tb2, fr_X8_touchBlock, fr_X8_touchAll, fr_X8_changeCorner, fr_X8_changePath, fr_cb1, fr_cb2, fr_X8_changeBlock, fr_wipe1, fr_X1_wipe, fr_sm1, fr_sm2, fr_X8_startMap, fr_X6_place, fr_mt1, fr_mt2, fr_X6_moveTo, fr_ch2, fr_X10_choose, fr_X1_take, fr_fgt1, fr_X5_forget, fr_X5_meet, fr_gat1, fr_X5_gather]
theorem tq_dl_ok {a b : tq_I} (hI : 0 ≤ (a 102 3).toInt ∧ (a 102 3).toInt ≤ 4 ∧ tq_le5 (a 7)) (h : ¬ (nI 4) ≤ a 102 3) (hb : b 102 3 = a 102 3 + nI 1) (h7 : ∀ k, b 7 k = a 7 k) : 0 ≤ (b 102 3).toInt ∧ (b 102 3).toInt ≤ 4 ∧ tq_le5 (b 7) := by
  simp (disch := omega) only [Int32.le_iff_toInt_le, nI_toInt] at h
  have hn := tq_nIN hI.1
  have e2 : (a 102 3 + nI 1).toInt = (a 102 3).toInt + 1 := by
    have hle : tq_N (a 102 3) ≤ 4 := by unfold tq_N; omega
    rw [hn, nI_add, nI_toInt (by omega), nI_toInt (by omega)]
    rfl
  refine ⟨by rw [hb, e2]; omega, by rw [hb, e2]; omega, fun k hk => by rw [h7]; exact hI.2.2 k hk⟩
def f_dl2 (x y : Nat) (i : Nat) (a : tq_I) : tq_I := (if (r_X7_isRankOfCorner a i) = 0 then a else (if (nI 4) ≤ (a 102 3) then a else (tq_u (tq_u (tq_u a 104 (tq_N (a 102 3)) (a 7 i)) 105 (tq_N (a 102 3)) (r_X7_maskFrom (tq_u a 104 (tq_N (a 102 3)) (a 7 i)) i)) 102 3 (((tq_u (tq_u a 104 (tq_N (a 102 3)) (a 7 i)) 105 (tq_N (a 102 3)) (r_X7_maskFrom (tq_u a 104 (tq_N (a 102 3)) (a 7 i)) i)) 102 3) + (nI 1)))))
set_option maxRecDepth 20000 in
theorem lp_dl2 {g : tq_G} {rest : List tq_S} {x0 : tq_X} (C : tq_C g mX7_drawLayers x0) (hR : tq_ht x0 2 0 0) (J : Int64) (x y : Nat)  : ∀ (n i : Nat) (a : tq_I), i + n = 6 → (0 ≤ (a 102 3).toInt ∧ (a 102 3).toInt ≤ 4 ∧ tq_le5 (a 7)) → EV g mX7_drawLayers x0 0 0 133 [some (.ref 102), some (.ref 1), some (.int (nI x)), some (.int (nI y)), some (.int (nI (i + n))), none] [] (tq_SC ++ rest) tq_RR (tq_it (f_dl2 x y) n i a) J → EV g mX7_drawLayers x0 0 0 60 [some (.ref 102), some (.ref 1), some (.int (nI x)), some (.int (nI y)), some (.int (nI i)), none] [] (tq_SC ++ rest) tq_RR a J := by
  intro n
  induction n with
  | zero =>
    intro i a hi hI kk
    rw [Nat.add_zero] at kk
    refine EV_blk (own := 7) C rfl [(.iload 4, 0, 0, 0, 0), (.bipush 6, 0, 0, 0, (nI 6))] (pc' := 64) (by decide +kernel) (lv' := [some (.ref 102), some (.ref 1), some (.int (nI x)), some (.int (nI y)), some (.int (nI i)), none]) (st' := [.int (nI 6), .int (nI i)]) (I' := a) (J' := J) rfl ?_
    refine EV_icmp_ge (off := 69) (tgt := 133) C (by decide +kernel) (by decide) (fun h1 => ?_) (fun h1 => ?_)
    · skip
      exact kk
    · skip
      exact absurd h1 (by simp (disch := omega) only [Int32.lt_iff_toInt_lt, Int32.le_iff_toInt_le, Int32.toInt_zero, nI_toInt, tq_m1]; omega)
  | succ n ih =>
    intro i a hi hI kk
    rw [show i + (n + 1) = (i + 1) + n by omega] at kk
    refine EV_blk (own := 7) C rfl [(.iload 4, 0, 0, 0, 0), (.bipush 6, 0, 0, 0, (nI 6))] (pc' := 64) (by decide +kernel) (lv' := [some (.ref 102), some (.ref 1), some (.int (nI x)), some (.int (nI y)), some (.int (nI i)), none]) (st' := [.int (nI 6), .int (nI i)]) (I' := a) (J' := J) rfl ?_
    refine EV_icmp_ge (off := 69) (tgt := 133) C (by decide +kernel) (by decide) (fun h1 => ?_) (fun h1 => ?_)
    · skip
      exact absurd h1 (by simp (disch := omega) only [Int32.lt_iff_toInt_lt, Int32.le_iff_toInt_le, Int32.toInt_zero, nI_toInt, tq_m1]; omega)
    · skip
      refine EV_blk (own := 7) C rfl [(.aload_n 0, 0, 0, 0, 0), (.iload 4, 0, 0, 0, 0)] (pc' := 70) (by decide +kernel) (lv' := [some (.ref 102), some (.ref 1), some (.int (nI x)), some (.int (nI y)), some (.int (nI i)), none]) (st' := [.int (nI i), .ref 102]) (I' := a) (J' := J) rfl ?_
      refine EV_cV (own := 7) (idx := 72) (μ' := mX7_isRankOfCorner) (b := 102) (cb := 7) (av := [.int (nI i)]) (rest := []) C hR rfl (Or.inl ⟨674, by decide⟩) kX7_isRankOfCorner sX7_isRankOfCorner (c_X7_isRankOfCorner g rest a J i ) rfl rfl (by decide +kernel) rfl (by decide) (Nat.le_of_ble_eq_true rfl) rfl ⟨Nat.zero_le _, Nat.zero_le _⟩ ?_
      refine EV_if_eq (off := 54) (tgt := 127) C (by decide +kernel) (by decide) (fun h2 => ?_) (fun h2 => ?_)
      · skip
        refine EV_blk (own := 7) C rfl [(.iinc 4 1, 0, 0, 0, (nI 1)), (.goto (-70), 0, 0, 0, 0)] (pc' := 60) (by decide +kernel) (lv' := [some (.ref 102), some (.ref 1), some (.int (nI x)), some (.int (nI y)), some (.int ((nI i) + (nI 1))), none]) (st' := []) (I' := a) (J' := J) rfl ?_
        rw [show ((nI i) + (nI 1)) = (nI (i + 1)) from by simp (disch := omega) only [nI_add, tq_mul] <;> exact congrArg nI (by omega)]
        rw [tq_its, show (f_dl2 x y) i a = a from by simp only [f_dl2, if_neg h1, if_pos h2]] at kk
        exact ih (i + 1) a (by omega) (by first | exact hI | exact tq_dl_ok hI h3 rfl (fun _ => rfl)) kk
      · skip
        refine EV_blk (own := 7) C rfl [(.aload_n 0, 0, 0, 0, 0), (.getfield 32, 7, 3, 255, 0), (.iconst 4, 0, 0, 0, (nI 4))] (pc' := 81) (by decide +kernel) (lv' := [some (.ref 102), some (.ref 1), some (.int (nI x)), some (.int (nI y)), some (.int (nI i)), none]) (st' := [.int (nI 4), .int (a 102 3)]) (I' := a) (J' := J) rfl ?_
        refine EV_icmp_ge (off := 46) (tgt := 127) C (by decide +kernel) (by decide) (fun h3 => ?_) (fun h3 => ?_)
        · skip
          refine EV_blk (own := 7) C rfl [(.iinc 4 1, 0, 0, 0, (nI 1)), (.goto (-70), 0, 0, 0, 0)] (pc' := 60) (by decide +kernel) (lv' := [some (.ref 102), some (.ref 1), some (.int (nI x)), some (.int (nI y)), some (.int ((nI i) + (nI 1))), none]) (st' := []) (I' := a) (J' := J) rfl ?_
          rw [show ((nI i) + (nI 1)) = (nI (i + 1)) from by simp (disch := omega) only [nI_add, tq_mul] <;> exact congrArg nI (by omega)]
          rw [tq_its, show (f_dl2 x y) i a = a from by simp only [f_dl2, if_neg h1, if_neg h2, if_pos h3]] at kk
          exact ih (i + 1) a (by omega) (by first | exact hI | exact tq_dl_ok hI h3 rfl (fun _ => rfl)) kk
        · skip
          refine EV_blk (own := 7) C rfl [(.aload_n 0, 0, 0, 0, 0), (.getfield 15, 7, 1, 251, 0), (.aload_n 0, 0, 0, 0, 0), (.getfield 32, 7, 3, 255, 0), (.aload_n 1, 0, 0, 0, 0), (.getfield 35, 8, 1, 195, 0), (.iload 4, 0, 0, 0, 0)] (pc' := 98) (by decide +kernel) (lv' := [some (.ref 102), some (.ref 1), some (.int (nI x)), some (.int (nI y)), some (.int (nI i)), none]) (st' := [.int (nI i), .ref 5, .int (a 102 3), .ref 104]) (I' := a) (J' := J) rfl ?_
          refine EV_cV (own := 7) (idx := 76) (μ' := mX6_terrainWithRank) (b := 5) (cb := 6) (av := [.int (nI i)]) (rest := [.int (a 102 3), .ref 104]) C hR rfl (Or.inl ⟨678, by decide⟩) kX6_terrainWithRank sX6_terrainWithRank (c_X6_terrainWithRank g rest a J i (by omega)) rfl rfl (by decide +kernel) rfl (by decide) (Nat.le_of_ble_eq_true rfl) rfl ⟨Nat.zero_le _, Nat.zero_le _⟩ ?_
          have h4 : ¬ (nI 4) ≤ a 102 3 := h3
          simp (disch := omega) only [Int32.le_iff_toInt_le, nI_toInt] at h4
          refine EV_iast (j := (tq_N (a 102 3))) C (by decide +kernel) rfl (show (a 102 3).toInt = _ by unfold tq_N; omega) (by unfold tq_N; omega) ?_
          refine EV_blk (own := 7) C rfl [(.aload_n 0, 0, 0, 0, 0), (.getfield 18, 7, 2, 253, 0), (.aload_n 0, 0, 0, 0, 0), (.getfield 32, 7, 3, 255, 0), (.aload_n 0, 0, 0, 0, 0), (.iload 4, 0, 0, 0, 0)] (pc' := 113) (by decide +kernel) (lv' := [some (.ref 102), some (.ref 1), some (.int (nI x)), some (.int (nI y)), some (.int (nI i)), none]) (st' := [.int (nI i), .ref 102, .int ((tq_u a 104 (tq_N (a 102 3)) (a 7 i)) 102 3), .ref 105]) (I' := (tq_u a 104 (tq_N (a 102 3)) (a 7 i))) (J' := J) rfl ?_
          refine EV_cV (own := 7) (idx := 79) (μ' := mX7_maskFrom) (b := 102) (cb := 7) (av := [.int (nI i)]) (rest := [.int ((tq_u a 104 (tq_N (a 102 3)) (a 7 i)) 102 3), .ref 105]) C hR rfl (Or.inl ⟨679, by decide⟩) kX7_maskFrom sX7_maskFrom (c_X7_maskFrom g rest (tq_u a 104 (tq_N (a 102 3)) (a 7 i)) J i ) rfl rfl (by decide +kernel) rfl (by decide) (Nat.le_of_ble_eq_true rfl) rfl ⟨Nat.zero_le _, Nat.zero_le _⟩ ?_
          refine EV_iast (j := (tq_N (a 102 3))) C (by decide +kernel) rfl (show (a 102 3).toInt = _ by unfold tq_N; omega) (by unfold tq_N; omega) ?_
          refine EV_blk (own := 7) C rfl [(.aload_n 0, 0, 0, 0, 0), (.dup, 0, 0, 0, 0), (.getfield 32, 7, 3, 255, 0), (.iconst 1, 0, 0, 0, (nI 1)), (.iadd, 0, 0, 0, 0), (.putfield 32, 7, 3, 255, 0), (.iinc 4 1, 0, 0, 0, (nI 1)), (.goto (-70), 0, 0, 0, 0)] (pc' := 60) (by decide +kernel) (lv' := [some (.ref 102), some (.ref 1), some (.int (nI x)), some (.int (nI y)), some (.int ((nI i) + (nI 1))), none]) (st' := []) (I' := (tq_u (tq_u (tq_u a 104 (tq_N (a 102 3)) (a 7 i)) 105 (tq_N (a 102 3)) (r_X7_maskFrom (tq_u a 104 (tq_N (a 102 3)) (a 7 i)) i)) 102 3 (((tq_u (tq_u a 104 (tq_N (a 102 3)) (a 7 i)) 105 (tq_N (a 102 3)) (r_X7_maskFrom (tq_u a 104 (tq_N (a 102 3)) (a 7 i)) i)) 102 3) + (nI 1)))) (J' := J) rfl ?_
          rw [show ((nI i) + (nI 1)) = (nI (i + 1)) from by simp (disch := omega) only [nI_add, tq_mul] <;> exact congrArg nI (by omega)]
          rw [tq_its, show (f_dl2 x y) i a = (tq_u (tq_u (tq_u a 104 (tq_N (a 102 3)) (a 7 i)) 105 (tq_N (a 102 3)) (r_X7_maskFrom (tq_u a 104 (tq_N (a 102 3)) (a 7 i)) i)) 102 3 (((tq_u (tq_u a 104 (tq_N (a 102 3)) (a 7 i)) 105 (tq_N (a 102 3)) (r_X7_maskFrom (tq_u a 104 (tq_N (a 102 3)) (a 7 i)) i)) 102 3) + (nI 1))) from by simp only [f_dl2, if_neg h1, if_neg h2, if_neg h3]] at kk
          exact ih (i + 1) (tq_u (tq_u (tq_u a 104 (tq_N (a 102 3)) (a 7 i)) 105 (tq_N (a 102 3)) (r_X7_maskFrom (tq_u a 104 (tq_N (a 102 3)) (a 7 i)) i)) 102 3 (((tq_u (tq_u a 104 (tq_N (a 102 3)) (a 7 i)) 105 (tq_N (a 102 3)) (r_X7_maskFrom (tq_u a 104 (tq_N (a 102 3)) (a 7 i)) i)) 102 3) + (nI 1))) (by omega) (by first | exact hI | exact tq_dl_ok hI h3 rfl (fun _ => rfl)) kk
theorem fr_dl2 (x y : Nat) {cz : Nat} (hc : cz ≠ 102 ∧ cz ≠ 104 ∧ cz ≠ 105) (n i : Nat) (a : tq_I) (jz : Nat) : (tq_it (f_dl2 x y) n i a) cz jz = a cz jz := by
  obtain ⟨hc0, hc1, hc2⟩ := hc
  refine tq_itF (fun i a j => ?_) n i a jz
  simp only [f_dl2]
  (repeat' split) <;> simp (disch := first | assumption | (simp only [ne_eq] at *; simp [*])) [tq_u, tq_cp, hc0, hc1, hc2, fr_tb1, fr_tb2, fr_X8_touchBlock, fr_X8_touchAll, fr_X8_changeCorner, fr_X8_changePath, fr_cb1, fr_cb2, fr_X8_changeBlock, fr_wipe1, fr_X1_wipe, fr_sm1, fr_sm2, fr_X8_startMap, fr_X6_place, fr_mt1, fr_mt2, fr_X6_moveTo, fr_ch2, fr_X10_choose, fr_X1_take, fr_fgt1, fr_X5_forget, fr_X5_meet, fr_gat1, fr_X5_gather, fr_dl1]
def I_X7_drawLayers (I : tq_I) (x y : Nat) : tq_I := (tq_it (f_dl2 x y) 6 0 (tq_u (tq_it (f_dl1 x y) 4 0 I) 102 3 (nI 0)))
set_option maxRecDepth 20000 in
theorem c_X7_drawLayers (g : tq_G) (rest : List tq_S) (I : tq_I) (J : Int64) (x y : Nat) (hx : x ≤ 9) (hy : y ≤ 9) (hT : ∀ i, i < 4 → 0 ≤ (I 3 ((y + i / 2) * 11 + (x + i % 2))).toInt ∧ (I 3 ((y + i / 2) * 11 + (x + i % 2))).toInt ≤ 5) (h7 : tq_le5 (I 7)) : CT g mX7_drawLayers 2 0 0 [.ref 102, .ref 1, .int (nI x), .int (nI y)] (tq_SC ++ rest) tq_RR I J (tq_ret (tq_SC ++ rest) tq_RR none (I_X7_drawLayers I x y) J) := by
  refine CT.ret kX7_drawLayers (Nat.le_of_ble_eq_true rfl) (fun x0 C hR hZ => ?_)
  refine EV_en (lv' := [some (.ref 102), some (.ref 1), some (.int (nI x)), some (.int (nI y)), none, none]) 2 rfl ?_
  refine EV_blk (own := 7) C rfl [(.iconst 0, 0, 0, 0, (nI 0)), (.istore 4, 0, 0, 0, 0)] (pc' := 3) (by decide +kernel) (lv' := [some (.ref 102), some (.ref 1), some (.int (nI x)), some (.int (nI y)), some (.int (nI 0)), none]) (st' := []) (I' := I) (J' := J) rfl ?_
  refine lp_dl1 C hR J x y hx hy 4 0 I (by omega) hT ?_
  refine EV_blk (own := 7) C rfl [(.aload_n 0, 0, 0, 0, 0), (.iconst 0, 0, 0, 0, (nI 0)), (.putfield 32, 7, 3, 255, 0), (.iconst 0, 0, 0, 0, (nI 0)), (.istore 4, 0, 0, 0, 0)] (pc' := 60) (by decide +kernel) (lv' := [some (.ref 102), some (.ref 1), some (.int (nI x)), some (.int (nI y)), some (.int (nI 0)), none]) (st' := []) (I' := (tq_u (tq_it (f_dl1 x y) 4 0 I) 102 3 (nI 0))) (J' := J) rfl ?_
  refine lp_dl2 C hR J x y  6 0 (tq_u (tq_it (f_dl1 x y) 4 0 I) 102 3 (nI 0)) (by omega) ⟨by rw [tq_u_same]; decide, by rw [tq_u_same]; decide, fun k hk => by rw [tq_u_cell (by decide), fr_dl1 _ _ (by decide)]; exact h7 k hk⟩ ?_
  exact EV_vret C hZ rfl (by decide +kernel) (Nat.le_refl _) (Nat.le_refl _) ⟨rfl, rfl, rfl, by simp only [I_X7_drawLayers], rfl⟩
theorem fr_X7_drawLayers (I : tq_I) (x y : Nat) {cz : Nat} (hc : cz ≠ 102 ∧ cz ≠ 103 ∧ cz ≠ 104 ∧ cz ≠ 105) (jz : Nat) : I_X7_drawLayers I x y cz jz = I cz jz := by
  obtain ⟨hc0, hc1, hc2, hc3⟩ := hc
  simp only [I_X7_drawLayers]
  (repeat' split) <;> simp (disch := first | assumption | (simp only [ne_eq] at *; simp [*])) [tq_u, tq_cp, hc0, hc1, hc2, hc3, fr_tb1, fr_tb2, fr_X8_touchBlock, fr_X8_touchAll, fr_X8_changeCorner, fr_X8_changePath, fr_cb1, fr_cb2, fr_X8_changeBlock, fr_wipe1, fr_X1_wipe, fr_sm1, fr_sm2, fr_X8_startMap, fr_X6_place, fr_mt1, fr_mt2, fr_X6_moveTo, fr_ch2, fr_X10_choose, fr_X1_take, fr_fgt1, fr_X5_forget, fr_X5_meet, fr_gat1, fr_X5_gather, fr_dl1, fr_dl2]
theorem tq_itB {α : Type} {f : Nat → α → α} (P : α → Prop) (N : Nat) (h : ∀ i a, i < N → P a → P (f i a)) : ∀ (n i : Nat) (a : α), i + n ≤ N → P a → P (tq_it f n i a)
  | 0, _, _, _, ha => ha
  | n + 1, i, a, hi, ha => tq_itB P N h n (i + 1) (f i a) (by omega) (h i a (by omega) ha)
theorem tq_incr {v : Int32} {m : Nat} (h0 : 0 ≤ v.toInt) (h1 : v.toInt ≤ (m : Int)) (hm : m < 2000000) : (v + nI 1).toInt = v.toInt + 1 ∧ tq_N (v + nI 1) = tq_N v + 1 := by
  have hn := tq_nIN h0
  have hle : tq_N v ≤ m := by unfold tq_N; omega
  have e : (v + nI 1).toInt = v.toInt + 1 := by
    rw [hn, nI_add, nI_toInt (by omega), nI_toInt (by omega)]
    rfl
  refine ⟨e, ?_⟩
  unfold tq_N
  rw [e]
  omega
/-- the layers found so far are sound -/
def tq_dlP (a : tq_I) : Prop := 0 ≤ (a 102 3).toInt ∧ (a 102 3).toInt ≤ 4 ∧ tq_le5 (a 7) ∧ ∀ k, k < tq_N (a 102 3) → (0 ≤ (a 104 k).toInt ∧ (a 104 k).toInt ≤ 5) ∧ 0 ≤ (a 105 k).toInt ∧ (a 105 k).toInt ≤ 15
theorem tq_dlP_step {x y i : Nat} {a : tq_I} (hi : i < 6) (h : tq_dlP a) : tq_dlP (f_dl2 x y i a) := by
  unfold f_dl2
  split
  · exact h
  · split
    · exact h
    · rename_i h4
      obtain ⟨h1, h2, h3, h5⟩ := h
      have hlt : (a 102 3).toInt < 4 := by simp (disch := omega) only [Int32.le_iff_toInt_le, nI_toInt] at h4; omega
      obtain ⟨e1, e2⟩ := tq_incr (m := 4) h1 (by omega) (by decide)
      generalize hm : r_X7_maskFrom _ i = mk
      have hmk : 0 ≤ mk.toInt ∧ mk.toInt ≤ 15 := by rw [← hm]; exact tq_mask15 _ _
      refine ⟨?_, ?_, fun k hk => ?_, fun k hk => ?_⟩
      · rw [tq_u_same, tq_u_cell (by decide), tq_u_cell (by decide), e1]; omega
      · rw [tq_u_same, tq_u_cell (by decide), tq_u_cell (by decide), e1]; omega
      · rw [tq_u_cell (by decide), tq_u_cell (by decide), tq_u_cell (by decide)]; exact h3 k hk
      · rw [tq_u_same, tq_u_cell (by decide), tq_u_cell (by decide), e2] at hk
        generalize hq : tq_N (a 102 3) = q at hk h5 ⊢
        have e104 : ∀ v, tq_u (tq_u (tq_u a 104 q (a 7 i)) 105 q mk) 102 3 v 104 k = if k = q then a 7 i else a 104 k := fun v => by simp [tq_u]
        have e105 : ∀ v, tq_u (tq_u (tq_u a 104 q (a 7 i)) 105 q mk) 102 3 v 105 k = if k = q then mk else a 105 k := fun v => by simp [tq_u]
        rw [e104, e105]
        by_cases hkk : k = q
        · rw [if_pos hkk, if_pos hkk]
          exact ⟨h3 i hi, hmk⟩
        · rw [if_neg hkk, if_neg hkk]
          exact h5 k (by omega)
theorem tq_dlP_draw {x y : Nat} {I : tq_I} (h7 : tq_le5 (I 7)) : tq_dlP (I_X7_drawLayers I x y) := by
  refine tq_itB tq_dlP 6 (fun i a hi ha => tq_dlP_step hi ha) 6 0 _ (by omega) ?_
  refine ⟨by rw [tq_u_same]; decide, by rw [tq_u_same]; decide, fun k hk => by rw [tq_u_cell (by decide), fr_dl1 _ _ (by decide)]; exact h7 k hk, fun k hk => ?_⟩
  rw [tq_u_same, tq_N_nI (by decide)] at hk
  exact absurd hk (Nat.not_lt_zero k)
theorem tq_pc_ok {a b : tq_I} (hI : 0 ≤ (a 102 5).toInt ∧ (a 102 5).toInt ≤ 7) (h : ¬ (nI 7) ≤ a 102 5) (hb : b 102 5 = a 102 5 + nI 1) : 0 ≤ (b 102 5).toInt ∧ (b 102 5).toInt ≤ 7 := by
  simp (disch := omega) only [Int32.le_iff_toInt_le, nI_toInt] at h
  rw [hb, (tq_incr (m := 7) hI.1 (by omega) (by decide)).1]
  omega
def f_dp1 (x y t m : Nat) (ps : Int32) (i : Nat) (a : tq_I) : tq_I := (if (tq_b (((ps >>> ((nI (1 + i)) &&& 31)) &&& (nI 1)) = (nI 1))) = 0 then a else (if (nI 7) ≤ (a 102 5) then a else (if (r_X10_flip (nI (1 + i)) (r_X10_wayOf a t (1 + i))) = (nI 15) then (tq_u (tq_u a 106 (tq_N (a 102 5)) (r_X11_codeOfPiece (nI t) (r_X10_flip (nI (1 + i)) (r_X10_wayOf a t (1 + i))) (r_X10_wayOf a t (1 + i)) (r_X6_variantOf a t x y))) 102 5 (((tq_u a 106 (tq_N (a 102 5)) (r_X11_codeOfPiece (nI t) (r_X10_flip (nI (1 + i)) (r_X10_wayOf a t (1 + i))) (r_X10_wayOf a t (1 + i)) (r_X6_variantOf a t x y))) 102 5) + (nI 1))) else (tq_u (tq_u a 106 (tq_N (a 102 5)) (r_X11_codeOfPiece (nI t) (r_X10_flip (nI (1 + i)) (r_X10_wayOf a t (1 + i))) (r_X10_wayOf a t (1 + i)) (nI 0))) 102 5 (((tq_u a 106 (tq_N (a 102 5)) (r_X11_codeOfPiece (nI t) (r_X10_flip (nI (1 + i)) (r_X10_wayOf a t (1 + i))) (r_X10_wayOf a t (1 + i)) (nI 0))) 102 5) + (nI 1))))))
set_option maxRecDepth 20000 in
theorem lp_dp1 {g : tq_G} {rest : List tq_S} {x0 : tq_X} (C : tq_C g mX7_drawPieces x0) (hR : tq_ht x0 2 0 0) (J : Int64) (x y t m : Nat) (ps : Int32) (ht : t ≤ 5) : ∀ (n i : Nat) (a : tq_I), i + n = 15 → (0 ≤ (a 102 5).toInt ∧ (a 102 5).toInt ≤ 7) → EV g mX7_drawPieces x0 0 0 121 [some (.ref 102), some (.ref 5), some (.int (nI x)), some (.int (nI y)), some (.int (nI t)), some (.int (nI m)), some (.int ps), some (.int (nI (1 + (i + n)))), none, none, none] [] (tq_SC ++ rest) tq_RR (tq_it (f_dp1 x y t m ps) n i a) J → EV g mX7_drawPieces x0 0 0 16 [some (.ref 102), some (.ref 5), some (.int (nI x)), some (.int (nI y)), some (.int (nI t)), some (.int (nI m)), some (.int ps), some (.int (nI (1 + i))), none, none, none] [] (tq_SC ++ rest) tq_RR a J := by
  intro n
  induction n with
  | zero =>
    intro i a hi hI kk
    rw [Nat.add_zero] at kk
    refine EV_blk (own := 7) C rfl [(.iload 7, 0, 0, 0, 0), (.bipush 15, 0, 0, 0, (nI 15))] (pc' := 20) (by decide +kernel) (lv' := [some (.ref 102), some (.ref 5), some (.int (nI x)), some (.int (nI y)), some (.int (nI t)), some (.int (nI m)), some (.int ps), some (.int (nI (1 + i))), none, none, none]) (st' := [.int (nI 15), .int (nI (1 + i))]) (I' := a) (J' := J) rfl ?_
    refine EV_icmp_gt (off := 101) (tgt := 121) C (by decide +kernel) (by decide) (fun h1 => ?_) (fun h1 => ?_)
    · skip
      exact kk
    · skip
      exact absurd h1 (by simp (disch := omega) only [Int32.lt_iff_toInt_lt, Int32.le_iff_toInt_le, Int32.toInt_zero, nI_toInt, tq_m1]; omega)
  | succ n ih =>
    intro i a hi hI kk
    rw [show i + (n + 1) = (i + 1) + n by omega] at kk
    refine EV_blk (own := 7) C rfl [(.iload 7, 0, 0, 0, 0), (.bipush 15, 0, 0, 0, (nI 15))] (pc' := 20) (by decide +kernel) (lv' := [some (.ref 102), some (.ref 5), some (.int (nI x)), some (.int (nI y)), some (.int (nI t)), some (.int (nI m)), some (.int ps), some (.int (nI (1 + i))), none, none, none]) (st' := [.int (nI 15), .int (nI (1 + i))]) (I' := a) (J' := J) rfl ?_
    refine EV_icmp_gt (off := 101) (tgt := 121) C (by decide +kernel) (by decide) (fun h1 => ?_) (fun h1 => ?_)
    · skip
      exact absurd h1 (by simp (disch := omega) only [Int32.lt_iff_toInt_lt, Int32.le_iff_toInt_le, Int32.toInt_zero, nI_toInt, tq_m1]; omega)
    · skip
      refine EV_blk (own := 7) C rfl [(.iload 6, 0, 0, 0, 0), (.iload 7, 0, 0, 0, 0)] (pc' := 27) (by decide +kernel) (lv' := [some (.ref 102), some (.ref 5), some (.int (nI x)), some (.int (nI y)), some (.int (nI t)), some (.int (nI m)), some (.int ps), some (.int (nI (1 + i))), none, none, none]) (st' := [.int (nI (1 + i)), .int ps]) (I' := a) (J' := J) rfl ?_
      refine EV_cS (own := 7) (idx := 91) (μ' := mX10_has) (av := [.int ps, .int (nI (1 + i))]) (rest := []) C hR rfl (Or.inl ⟨688, by decide⟩) kX10_has sX10_has (c_X10_has g rest a J ps (nI (1 + i)) ) (by decide +kernel) rfl (by decide) (Nat.le_of_ble_eq_true rfl) rfl ⟨Nat.zero_le _, Nat.zero_le _⟩ ?_
      refine EV_if_eq (off := 85) (tgt := 115) C (by decide +kernel) (by decide) (fun h2 => ?_) (fun h2 => ?_)
      · skip
        refine EV_blk (own := 7) C rfl [(.iinc 7 1, 0, 0, 0, (nI 1)), (.goto (-102), 0, 0, 0, 0)] (pc' := 16) (by decide +kernel) (lv' := [some (.ref 102), some (.ref 5), some (.int (nI x)), some (.int (nI y)), some (.int (nI t)), some (.int (nI m)), some (.int ps), some (.int ((nI (1 + i)) + (nI 1))), none, none, none]) (st' := []) (I' := a) (J' := J) rfl ?_
        rw [show ((nI (1 + i)) + (nI 1)) = (nI (1 + (i + 1))) from by simp (disch := omega) only [nI_add, tq_mul] <;> exact congrArg nI (by omega)]
        rw [tq_its, show (f_dp1 x y t m ps) i a = a from by simp only [f_dp1, if_neg h1, if_pos h2]] at kk
        exact ih (i + 1) a (by omega) (by first | exact hI | exact tq_pc_ok hI h3 rfl) kk
      · skip
        refine EV_blk (own := 7) C rfl [(.aload_n 0, 0, 0, 0, 0), (.getfield 28, 7, 5, 260, 0), (.bipush 7, 0, 0, 0, (nI 7))] (pc' := 39) (by decide +kernel) (lv' := [some (.ref 102), some (.ref 5), some (.int (nI x)), some (.int (nI y)), some (.int (nI t)), some (.int (nI m)), some (.int ps), some (.int (nI (1 + i))), none, none, none]) (st' := [.int (nI 7), .int (a 102 5)]) (I' := a) (J' := J) rfl ?_
        refine EV_icmp_ge (off := 76) (tgt := 115) C (by decide +kernel) (by decide) (fun h3 => ?_) (fun h3 => ?_)
        · skip
          refine EV_blk (own := 7) C rfl [(.iinc 7 1, 0, 0, 0, (nI 1)), (.goto (-102), 0, 0, 0, 0)] (pc' := 16) (by decide +kernel) (lv' := [some (.ref 102), some (.ref 5), some (.int (nI x)), some (.int (nI y)), some (.int (nI t)), some (.int (nI m)), some (.int ps), some (.int ((nI (1 + i)) + (nI 1))), none, none, none]) (st' := []) (I' := a) (J' := J) rfl ?_
          rw [show ((nI (1 + i)) + (nI 1)) = (nI (1 + (i + 1))) from by simp (disch := omega) only [nI_add, tq_mul] <;> exact congrArg nI (by omega)]
          rw [tq_its, show (f_dp1 x y t m ps) i a = a from by simp only [f_dp1, if_neg h1, if_neg h2, if_pos h3]] at kk
          exact ih (i + 1) a (by omega) (by first | exact hI | exact tq_pc_ok hI h3 rfl) kk
        · skip
          refine EV_blk (own := 7) C rfl [(.aload_n 1, 0, 0, 0, 0), (.getfield 82, 6, 3, 147, 0), (.iload 4, 0, 0, 0, 0), (.iload 7, 0, 0, 0, 0)] (pc' := 50) (by decide +kernel) (lv' := [some (.ref 102), some (.ref 5), some (.int (nI x)), some (.int (nI y)), some (.int (nI t)), some (.int (nI m)), some (.int ps), some (.int (nI (1 + i))), none, none, none]) (st' := [.int (nI (1 + i)), .int (nI t), .ref 9]) (I' := a) (J' := J) rfl ?_
          refine EV_cV (own := 7) (idx := 95) (μ' := mX10_wayOf) (b := 9) (cb := 10) (av := [.int (nI t), .int (nI (1 + i))]) (rest := []) C hR rfl (Or.inl ⟨689, by decide⟩) kX10_wayOf sX10_wayOf (c_X10_wayOf g rest a J t (1 + i) (by omega)) rfl rfl (by decide +kernel) rfl (by decide) (Nat.le_of_ble_eq_true rfl) rfl ⟨Nat.zero_le _, Nat.zero_le _⟩ ?_
          refine EV_blk (own := 7) C rfl [(.istore 8, 0, 0, 0, 0), (.iload 7, 0, 0, 0, 0), (.iload 8, 0, 0, 0, 0)] (pc' := 59) (by decide +kernel) (lv' := [some (.ref 102), some (.ref 5), some (.int (nI x)), some (.int (nI y)), some (.int (nI t)), some (.int (nI m)), some (.int ps), some (.int (nI (1 + i))), some (.int (r_X10_wayOf a t (1 + i))), none, none]) (st' := [.int (r_X10_wayOf a t (1 + i)), .int (nI (1 + i))]) (I' := a) (J' := J) rfl ?_
          refine EV_cS (own := 7) (idx := 98) (μ' := mX10_flip) (av := [.int (nI (1 + i)), .int (r_X10_wayOf a t (1 + i))]) (rest := []) C hR rfl (Or.inl ⟨690, by decide⟩) kX10_flip sX10_flip (c_X10_flip g rest a J (nI (1 + i)) (r_X10_wayOf a t (1 + i)) ) (by decide +kernel) rfl (by decide) (Nat.le_of_ble_eq_true rfl) rfl ⟨Nat.zero_le _, Nat.zero_le _⟩ ?_
          refine EV_blk (own := 7) C rfl [(.istore 9, 0, 0, 0, 0), (.iload 9, 0, 0, 0, 0), (.bipush 15, 0, 0, 0, (nI 15))] (pc' := 68) (by decide +kernel) (lv' := [some (.ref 102), some (.ref 5), some (.int (nI x)), some (.int (nI y)), some (.int (nI t)), some (.int (nI m)), some (.int ps), some (.int (nI (1 + i))), some (.int (r_X10_wayOf a t (1 + i))), some (.int (r_X10_flip (nI (1 + i)) (r_X10_wayOf a t (1 + i)))), none]) (st' := [.int (nI 15), .int (r_X10_flip (nI (1 + i)) (r_X10_wayOf a t (1 + i)))]) (I' := a) (J' := J) rfl ?_
          refine EV_icmp_ne (off := 14) (tgt := 82) C (by decide +kernel) (by decide) (fun h4 => ?_) (fun h4 => ?_)
          · skip
            refine EV_blk (own := 7) C rfl [(.iconst 0, 0, 0, 0, (nI 0)), (.istore 10, 0, 0, 0, 0), (.aload_n 0, 0, 0, 0, 0), (.getfield 21, 7, 4, 257, 0), (.aload_n 0, 0, 0, 0, 0), (.getfield 28, 7, 5, 260, 0), (.iload 4, 0, 0, 0, 0), (.iload 9, 0, 0, 0, 0), (.iload 8, 0, 0, 0, 0), (.iload 10, 0, 0, 0, 0)] (pc' := 101) (by decide +kernel) (lv' := [some (.ref 102), some (.ref 5), some (.int (nI x)), some (.int (nI y)), some (.int (nI t)), some (.int (nI m)), some (.int ps), some (.int (nI (1 + i))), some (.int (r_X10_wayOf a t (1 + i))), some (.int (r_X10_flip (nI (1 + i)) (r_X10_wayOf a t (1 + i)))), some (.int (nI 0))]) (st' := [.int (nI 0), .int (r_X10_wayOf a t (1 + i)), .int (r_X10_flip (nI (1 + i)) (r_X10_wayOf a t (1 + i))), .int (nI t), .int (a 102 5), .ref 106]) (I' := a) (J' := J) rfl ?_
            refine EV_cS (own := 7) (idx := 105) (μ' := mX11_codeOfPiece) (av := [.int (nI t), .int (r_X10_flip (nI (1 + i)) (r_X10_wayOf a t (1 + i))), .int (r_X10_wayOf a t (1 + i)), .int (nI 0)]) (rest := [.int (a 102 5), .ref 106]) C hR rfl (Or.inr ⟨696, by decide⟩) kX11_codeOfPiece sX11_codeOfPiece (c_X11_codeOfPiece g rest a J (nI t) (r_X10_flip (nI (1 + i)) (r_X10_wayOf a t (1 + i))) (r_X10_wayOf a t (1 + i)) (nI 0) ) (by decide +kernel) rfl (by decide) (Nat.le_of_ble_eq_true rfl) rfl ⟨Nat.zero_le _, Nat.zero_le _⟩ ?_
            have h7 : ¬ (nI 7) ≤ a 102 5 := h3
            simp (disch := omega) only [Int32.le_iff_toInt_le, nI_toInt] at h7
            refine EV_iast (j := (tq_N (a 102 5))) C (by decide +kernel) rfl (show (a 102 5).toInt = _ by unfold tq_N; omega) (by unfold tq_N; omega) ?_
            refine EV_blk (own := 7) C rfl [(.aload_n 0, 0, 0, 0, 0), (.dup, 0, 0, 0, 0), (.getfield 28, 7, 5, 260, 0), (.iconst 1, 0, 0, 0, (nI 1)), (.iadd, 0, 0, 0, 0), (.putfield 28, 7, 5, 260, 0), (.iinc 7 1, 0, 0, 0, (nI 1)), (.goto (-102), 0, 0, 0, 0)] (pc' := 16) (by decide +kernel) (lv' := [some (.ref 102), some (.ref 5), some (.int (nI x)), some (.int (nI y)), some (.int (nI t)), some (.int (nI m)), some (.int ps), some (.int ((nI (1 + i)) + (nI 1))), some (.int (r_X10_wayOf a t (1 + i))), some (.int (r_X10_flip (nI (1 + i)) (r_X10_wayOf a t (1 + i)))), some (.int (nI 0))]) (st' := []) (I' := (tq_u (tq_u a 106 (tq_N (a 102 5)) (r_X11_codeOfPiece (nI t) (r_X10_flip (nI (1 + i)) (r_X10_wayOf a t (1 + i))) (r_X10_wayOf a t (1 + i)) (nI 0))) 102 5 (((tq_u a 106 (tq_N (a 102 5)) (r_X11_codeOfPiece (nI t) (r_X10_flip (nI (1 + i)) (r_X10_wayOf a t (1 + i))) (r_X10_wayOf a t (1 + i)) (nI 0))) 102 5) + (nI 1)))) (J' := J) rfl ?_
            refine EV_fg (lv' := [some (.ref 102), some (.ref 5), some (.int (nI x)), some (.int (nI y)), some (.int (nI t)), some (.int (nI m)), some (.int ps), some (.int ((nI (1 + i)) + (nI 1))), none, none, none]) ⟨rfl, rfl, rfl, rfl, rfl, rfl, rfl, rfl, trivial⟩ ?_
            rw [show ((nI (1 + i)) + (nI 1)) = (nI (1 + (i + 1))) from by simp (disch := omega) only [nI_add, tq_mul] <;> exact congrArg nI (by omega)]
            rw [tq_its, show (f_dp1 x y t m ps) i a = (tq_u (tq_u a 106 (tq_N (a 102 5)) (r_X11_codeOfPiece (nI t) (r_X10_flip (nI (1 + i)) (r_X10_wayOf a t (1 + i))) (r_X10_wayOf a t (1 + i)) (nI 0))) 102 5 (((tq_u a 106 (tq_N (a 102 5)) (r_X11_codeOfPiece (nI t) (r_X10_flip (nI (1 + i)) (r_X10_wayOf a t (1 + i))) (r_X10_wayOf a t (1 + i)) (nI 0))) 102 5) + (nI 1))) from by simp only [f_dp1, if_neg h1, if_neg h2, if_neg h3, if_neg h4]] at kk
            exact ih (i + 1) (tq_u (tq_u a 106 (tq_N (a 102 5)) (r_X11_codeOfPiece (nI t) (r_X10_flip (nI (1 + i)) (r_X10_wayOf a t (1 + i))) (r_X10_wayOf a t (1 + i)) (nI 0))) 102 5 (((tq_u a 106 (tq_N (a 102 5)) (r_X11_codeOfPiece (nI t) (r_X10_flip (nI (1 + i)) (r_X10_wayOf a t (1 + i))) (r_X10_wayOf a t (1 + i)) (nI 0))) 102 5) + (nI 1))) (by omega) (by first | exact hI | exact tq_pc_ok hI h3 rfl) kk
          · skip
            refine EV_blk (own := 7) C rfl [(.aload_n 1, 0, 0, 0, 0), (.iload 4, 0, 0, 0, 0), (.iload_n 2, 0, 0, 0, 0), (.iload_n 3, 0, 0, 0, 0)] (pc' := 76) (by decide +kernel) (lv' := [some (.ref 102), some (.ref 5), some (.int (nI x)), some (.int (nI y)), some (.int (nI t)), some (.int (nI m)), some (.int ps), some (.int (nI (1 + i))), some (.int (r_X10_wayOf a t (1 + i))), some (.int (r_X10_flip (nI (1 + i)) (r_X10_wayOf a t (1 + i)))), none]) (st' := [.int (nI y), .int (nI x), .int (nI t), .ref 5]) (I' := a) (J' := J) rfl ?_
            refine EV_cV (own := 7) (idx := 101) (μ' := mX6_variantOf) (b := 5) (cb := 6) (av := [.int (nI t), .int (nI x), .int (nI y)]) (rest := []) C hR rfl (Or.inl ⟨691, by decide⟩) kX6_variantOf sX6_variantOf (c_X6_variantOf g rest a J t x y (by omega)) rfl rfl (by decide +kernel) rfl (by decide) (Nat.le_of_ble_eq_true rfl) rfl ⟨Nat.zero_le _, Nat.zero_le _⟩ ?_
            refine EV_blk (own := 7) C rfl [(.goto 4, 0, 0, 0, 0), (.istore 10, 0, 0, 0, 0), (.aload_n 0, 0, 0, 0, 0), (.getfield 21, 7, 4, 257, 0), (.aload_n 0, 0, 0, 0, 0), (.getfield 28, 7, 5, 260, 0), (.iload 4, 0, 0, 0, 0), (.iload 9, 0, 0, 0, 0), (.iload 8, 0, 0, 0, 0), (.iload 10, 0, 0, 0, 0)] (pc' := 101) (by decide +kernel) (lv' := [some (.ref 102), some (.ref 5), some (.int (nI x)), some (.int (nI y)), some (.int (nI t)), some (.int (nI m)), some (.int ps), some (.int (nI (1 + i))), some (.int (r_X10_wayOf a t (1 + i))), some (.int (r_X10_flip (nI (1 + i)) (r_X10_wayOf a t (1 + i)))), some (.int (r_X6_variantOf a t x y))]) (st' := [.int (r_X6_variantOf a t x y), .int (r_X10_wayOf a t (1 + i)), .int (r_X10_flip (nI (1 + i)) (r_X10_wayOf a t (1 + i))), .int (nI t), .int (a 102 5), .ref 106]) (I' := a) (J' := J) rfl ?_
            refine EV_cS (own := 7) (idx := 105) (μ' := mX11_codeOfPiece) (av := [.int (nI t), .int (r_X10_flip (nI (1 + i)) (r_X10_wayOf a t (1 + i))), .int (r_X10_wayOf a t (1 + i)), .int (r_X6_variantOf a t x y)]) (rest := [.int (a 102 5), .ref 106]) C hR rfl (Or.inr ⟨696, by decide⟩) kX11_codeOfPiece sX11_codeOfPiece (c_X11_codeOfPiece g rest a J (nI t) (r_X10_flip (nI (1 + i)) (r_X10_wayOf a t (1 + i))) (r_X10_wayOf a t (1 + i)) (r_X6_variantOf a t x y) ) (by decide +kernel) rfl (by decide) (Nat.le_of_ble_eq_true rfl) rfl ⟨Nat.zero_le _, Nat.zero_le _⟩ ?_
            have h7 : ¬ (nI 7) ≤ a 102 5 := h3
            simp (disch := omega) only [Int32.le_iff_toInt_le, nI_toInt] at h7
            refine EV_iast (j := (tq_N (a 102 5))) C (by decide +kernel) rfl (show (a 102 5).toInt = _ by unfold tq_N; omega) (by unfold tq_N; omega) ?_
            refine EV_blk (own := 7) C rfl [(.aload_n 0, 0, 0, 0, 0), (.dup, 0, 0, 0, 0), (.getfield 28, 7, 5, 260, 0), (.iconst 1, 0, 0, 0, (nI 1)), (.iadd, 0, 0, 0, 0), (.putfield 28, 7, 5, 260, 0), (.iinc 7 1, 0, 0, 0, (nI 1)), (.goto (-102), 0, 0, 0, 0)] (pc' := 16) (by decide +kernel) (lv' := [some (.ref 102), some (.ref 5), some (.int (nI x)), some (.int (nI y)), some (.int (nI t)), some (.int (nI m)), some (.int ps), some (.int ((nI (1 + i)) + (nI 1))), some (.int (r_X10_wayOf a t (1 + i))), some (.int (r_X10_flip (nI (1 + i)) (r_X10_wayOf a t (1 + i)))), some (.int (r_X6_variantOf a t x y))]) (st' := []) (I' := (tq_u (tq_u a 106 (tq_N (a 102 5)) (r_X11_codeOfPiece (nI t) (r_X10_flip (nI (1 + i)) (r_X10_wayOf a t (1 + i))) (r_X10_wayOf a t (1 + i)) (r_X6_variantOf a t x y))) 102 5 (((tq_u a 106 (tq_N (a 102 5)) (r_X11_codeOfPiece (nI t) (r_X10_flip (nI (1 + i)) (r_X10_wayOf a t (1 + i))) (r_X10_wayOf a t (1 + i)) (r_X6_variantOf a t x y))) 102 5) + (nI 1)))) (J' := J) rfl ?_
            refine EV_fg (lv' := [some (.ref 102), some (.ref 5), some (.int (nI x)), some (.int (nI y)), some (.int (nI t)), some (.int (nI m)), some (.int ps), some (.int ((nI (1 + i)) + (nI 1))), none, none, none]) ⟨rfl, rfl, rfl, rfl, rfl, rfl, rfl, rfl, trivial⟩ ?_
            rw [show ((nI (1 + i)) + (nI 1)) = (nI (1 + (i + 1))) from by simp (disch := omega) only [nI_add, tq_mul] <;> exact congrArg nI (by omega)]
            rw [tq_its, show (f_dp1 x y t m ps) i a = (tq_u (tq_u a 106 (tq_N (a 102 5)) (r_X11_codeOfPiece (nI t) (r_X10_flip (nI (1 + i)) (r_X10_wayOf a t (1 + i))) (r_X10_wayOf a t (1 + i)) (r_X6_variantOf a t x y))) 102 5 (((tq_u a 106 (tq_N (a 102 5)) (r_X11_codeOfPiece (nI t) (r_X10_flip (nI (1 + i)) (r_X10_wayOf a t (1 + i))) (r_X10_wayOf a t (1 + i)) (r_X6_variantOf a t x y))) 102 5) + (nI 1))) from by simp only [f_dp1, if_neg h1, if_neg h2, if_neg h3, if_pos h4]] at kk
            exact ih (i + 1) (tq_u (tq_u a 106 (tq_N (a 102 5)) (r_X11_codeOfPiece (nI t) (r_X10_flip (nI (1 + i)) (r_X10_wayOf a t (1 + i))) (r_X10_wayOf a t (1 + i)) (r_X6_variantOf a t x y))) 102 5 (((tq_u a 106 (tq_N (a 102 5)) (r_X11_codeOfPiece (nI t) (r_X10_flip (nI (1 + i)) (r_X10_wayOf a t (1 + i))) (r_X10_wayOf a t (1 + i)) (r_X6_variantOf a t x y))) 102 5) + (nI 1))) (by omega) (by first | exact hI | exact tq_pc_ok hI h3 rfl) kk
theorem fr_dp1 (x y t m : Nat) (ps : Int32) {cz : Nat} (hc : cz ≠ 102 ∧ cz ≠ 106) (n i : Nat) (a : tq_I) (jz : Nat) : (tq_it (f_dp1 x y t m ps) n i a) cz jz = a cz jz := by
  obtain ⟨hc0, hc1⟩ := hc
  refine tq_itF (fun i a j => ?_) n i a jz
  simp only [f_dp1]
  (repeat' split) <;> simp (disch := first | assumption | (simp only [ne_eq] at *; simp [*])) [tq_u, tq_cp, hc0, hc1, fr_tb1, fr_tb2, fr_X8_touchBlock, fr_X8_touchAll, fr_X8_changeCorner, fr_X8_changePath, fr_cb1, fr_cb2, fr_X8_changeBlock, fr_wipe1, fr_X1_wipe, fr_sm1, fr_sm2, fr_X8_startMap, fr_X6_place, fr_mt1, fr_mt2, fr_X6_moveTo, fr_ch2, fr_X10_choose, fr_X1_take, fr_fgt1, fr_X5_forget, fr_X5_meet, fr_gat1, fr_X5_gather, fr_dl1, fr_dl2, fr_X7_drawLayers]
def I_X7_drawPieces (I : tq_I) (x y t m : Nat) : tq_I := (tq_it (f_dp1 x y t m (I 11 (t * 16 + m))) 15 0 I)
set_option maxRecDepth 20000 in
theorem c_X7_drawPieces (g : tq_G) (rest : List tq_S) (I : tq_I) (J : Int64) (x y t m : Nat) (ht : t ≤ 5) (hm : m ≤ 15) (hI : 0 ≤ (I 102 5).toInt ∧ (I 102 5).toInt ≤ 7) : CT g mX7_drawPieces 2 0 0 [.ref 102, .ref 5, .int (nI x), .int (nI y), .int (nI t), .int (nI m)] (tq_SC ++ rest) tq_RR I J (tq_ret (tq_SC ++ rest) tq_RR none (I_X7_drawPieces I x y t m) J) := by
  refine CT.ret kX7_drawPieces (Nat.le_of_ble_eq_true rfl) (fun x0 C hR hZ => ?_)
  refine EV_en (lv' := [some (.ref 102), some (.ref 5), some (.int (nI x)), some (.int (nI y)), some (.int (nI t)), some (.int (nI m)), none, none, none, none, none]) 5 rfl ?_
  refine EV_blk (own := 7) C rfl [(.aload_n 1, 0, 0, 0, 0), (.getfield 82, 6, 3, 147, 0), (.iload 4, 0, 0, 0, 0), (.iload 5, 0, 0, 0, 0)] (pc' := 8) (by decide +kernel) (lv' := [some (.ref 102), some (.ref 5), some (.int (nI x)), some (.int (nI y)), some (.int (nI t)), some (.int (nI m)), none, none, none, none, none]) (st' := [.int (nI m), .int (nI t), .ref 9]) (I' := I) (J' := J) rfl ?_
  refine EV_cV (own := 7) (idx := 86) (μ' := mX10_partsOf) (b := 9) (cb := 10) (av := [.int (nI t), .int (nI m)]) (rest := []) C hR rfl (Or.inl ⟨687, by decide⟩) kX10_partsOf sX10_partsOf (c_X10_partsOf g rest I J t m (by omega) (by omega)) rfl rfl (by decide +kernel) rfl (by decide) (Nat.le_of_ble_eq_true rfl) rfl ⟨Nat.zero_le _, Nat.zero_le _⟩ ?_
  refine EV_blk (own := 7) C rfl [(.istore 6, 0, 0, 0, 0), (.iconst 1, 0, 0, 0, (nI 1)), (.istore 7, 0, 0, 0, 0)] (pc' := 16) (by decide +kernel) (lv' := [some (.ref 102), some (.ref 5), some (.int (nI x)), some (.int (nI y)), some (.int (nI t)), some (.int (nI m)), some (.int (I 11 (t * 16 + m))), some (.int (nI 1)), none, none, none]) (st' := []) (I' := I) (J' := J) rfl ?_
  refine lp_dp1 C hR J x y t m (I 11 (t * 16 + m)) ht 15 0 I (by omega) hI ?_
  exact EV_vret C hZ rfl (by decide +kernel) (Nat.le_refl _) (Nat.le_refl _) ⟨rfl, rfl, rfl, by simp only [I_X7_drawPieces], rfl⟩
theorem fr_X7_drawPieces (I : tq_I) (x y t m : Nat) {cz : Nat} (hc : cz ≠ 102 ∧ cz ≠ 106) (jz : Nat) : I_X7_drawPieces I x y t m cz jz = I cz jz := by
  obtain ⟨hc0, hc1⟩ := hc
  simp only [I_X7_drawPieces]
  (repeat' split) <;> simp (disch := first | assumption | (simp only [ne_eq] at *; simp [*])) [tq_u, tq_cp, hc0, hc1, fr_tb1, fr_tb2, fr_X8_touchBlock, fr_X8_touchAll, fr_X8_changeCorner, fr_X8_changePath, fr_cb1, fr_cb2, fr_X8_changeBlock, fr_wipe1, fr_X1_wipe, fr_sm1, fr_sm2, fr_X8_startMap, fr_X6_place, fr_mt1, fr_mt2, fr_X6_moveTo, fr_ch2, fr_X10_choose, fr_X1_take, fr_fgt1, fr_X5_forget, fr_X5_meet, fr_gat1, fr_X5_gather, fr_dl1, fr_dl2, fr_X7_drawLayers, fr_dp1]
/-- drawing pieces leaves the sketch's other fields -/
theorem tq_dp_step {x y t m i : Nat} {ps : Int32} {a : tq_I} (h : 0 ≤ (a 102 5).toInt ∧ (a 102 5).toInt ≤ 7) : (0 ≤ (f_dp1 x y t m ps i a 102 5).toInt ∧ (f_dp1 x y t m ps i a 102 5).toInt ≤ 7) ∧ ∀ j, j ≠ 5 → f_dp1 x y t m ps i a 102 j = a 102 j := by
  unfold f_dp1
  split
  · exact ⟨h, fun _ _ => rfl⟩
  · split
    · exact ⟨h, fun _ _ => rfl⟩
    · rename_i h7
      split
      · exact ⟨tq_pc_ok h h7 rfl, fun j hj => by rw [tq_u_slot hj, tq_u_cell (by decide)]⟩
      · exact ⟨tq_pc_ok h h7 rfl, fun j hj => by rw [tq_u_slot hj, tq_u_cell (by decide)]⟩
theorem tq_dp_inv {x y t m : Nat} {ps : Int32} : ∀ (n i : Nat) (a : tq_I), (0 ≤ (a 102 5).toInt ∧ (a 102 5).toInt ≤ 7) → (0 ≤ (tq_it (f_dp1 x y t m ps) n i a 102 5).toInt ∧ (tq_it (f_dp1 x y t m ps) n i a 102 5).toInt ≤ 7) ∧ ∀ j, j ≠ 5 → tq_it (f_dp1 x y t m ps) n i a 102 j = a 102 j
  | 0, _, _, h => ⟨h, fun _ _ => rfl⟩
  | n + 1, i, a, h => by
    have h1 := tq_dp_step (x := x) (y := y) (t := t) (m := m) (i := i) (ps := ps) h
    have h2 := tq_dp_inv (x := x) (y := y) (t := t) (m := m) (ps := ps) n (i + 1) _ h1.1
    exact ⟨h2.1, fun j hj => (h2.2 j hj).trans (h1.2 j hj)⟩
theorem tq_dpI {x y t m : Nat} {I : tq_I} (h : 0 ≤ (I 102 5).toInt ∧ (I 102 5).toInt ≤ 7) : (0 ≤ (I_X7_drawPieces I x y t m 102 5).toInt ∧ (I_X7_drawPieces I x y t m 102 5).toInt ≤ 7) ∧ ∀ j, j ≠ 5 → I_X7_drawPieces I x y t m 102 j = I 102 j := tq_dp_inv _ _ _ h
def tq_drP (c : Nat) (a : tq_I) : Prop := a 102 3 = nI c ∧ (0 ≤ (a 102 5).toInt ∧ (a 102 5).toInt ≤ 7) ∧ ∀ k, k < c → (0 ≤ (a 104 k).toInt ∧ (a 104 k).toInt ≤ 5) ∧ 0 ≤ (a 105 k).toInt ∧ (a 105 k).toInt ≤ 15
theorem tq_drP_step {c x y t m : Nat} {a : tq_I} (h : tq_drP c a) : tq_drP c (I_X7_drawPieces a x y t m) := by
  obtain ⟨h1, h2, h3⟩ := h
  have h4 := tq_dpI (x := x) (y := y) (t := t) (m := m) h2
  refine ⟨by rw [h4.2 3 (by decide)]; exact h1, h4.1, fun k hk => ?_⟩
  rw [fr_X7_drawPieces _ _ _ _ _ (by decide), fr_X7_drawPieces _ _ _ _ _ (by decide)]
  exact h3 k hk
theorem tq_N5 {v : Int32} (h : 0 ≤ v.toInt ∧ v.toInt ≤ 5) : tq_N v ≤ 5 := by unfold tq_N; omega
theorem tq_N15 {v : Int32} (h : 0 ≤ v.toInt ∧ v.toInt ≤ 15) : tq_N v ≤ 15 := by unfold tq_N; omega
def f_dr1 (x y c : Nat) (i : Nat) (a : tq_I) : tq_I := (I_X7_drawPieces a x y (tq_N (a 104 i)) (tq_N (a 105 i)))
set_option maxRecDepth 20000 in
theorem lp_dr1 {g : tq_G} {rest : List tq_S} {x0 : tq_X} (C : tq_C g mX7_draw x0) (hR : tq_ht x0 5 0 0) (J : Int64) (x y c : Nat) (hc : c ≤ 4) : ∀ (n i : Nat) (a : tq_I), i + n = c → tq_drP c a → EV g mX7_draw x0 0 0 54 [some (.ref 102), some (.ref 1), some (.int (nI x)), some (.int (nI y)), some (.int (nI (i + n)))] [] (tq_SC ++ rest) tq_RR (tq_it (f_dr1 x y c) n i a) J → EV g mX7_draw x0 0 0 15 [some (.ref 102), some (.ref 1), some (.int (nI x)), some (.int (nI y)), some (.int (nI i))] [] (tq_SC ++ rest) tq_RR a J := by
  intro n
  induction n with
  | zero =>
    intro i a hi hI kk
    rw [Nat.add_zero] at kk
    refine EV_blk (own := 7) C rfl [(.iload 4, 0, 0, 0, 0), (.aload_n 0, 0, 0, 0, 0), (.getfield 32, 7, 3, 255, 0)] (pc' := 21) (by decide +kernel) (lv' := [some (.ref 102), some (.ref 1), some (.int (nI x)), some (.int (nI y)), some (.int (nI i))]) (st' := [.int (a 102 3), .int (nI i)]) (I' := a) (J' := J) rfl ?_
    refine EV_icmp_ge (off := 33) (tgt := 54) C (by decide +kernel) (by decide) (fun h1 => ?_) (fun h1 => ?_)
    · skip
      exact kk
    · skip
      exact absurd h1 (by simp (disch := omega) only [Int32.lt_iff_toInt_lt, Int32.le_iff_toInt_le, Int32.toInt_zero, nI_toInt, tq_m1, hI.1]; omega)
  | succ n ih =>
    intro i a hi hI kk
    rw [show i + (n + 1) = (i + 1) + n by omega] at kk
    refine EV_blk (own := 7) C rfl [(.iload 4, 0, 0, 0, 0), (.aload_n 0, 0, 0, 0, 0), (.getfield 32, 7, 3, 255, 0)] (pc' := 21) (by decide +kernel) (lv' := [some (.ref 102), some (.ref 1), some (.int (nI x)), some (.int (nI y)), some (.int (nI i))]) (st' := [.int (a 102 3), .int (nI i)]) (I' := a) (J' := J) rfl ?_
    refine EV_icmp_ge (off := 33) (tgt := 54) C (by decide +kernel) (by decide) (fun h1 => ?_) (fun h1 => ?_)
    · skip
      exact absurd h1 (by simp (disch := omega) only [Int32.lt_iff_toInt_lt, Int32.le_iff_toInt_le, Int32.toInt_zero, nI_toInt, tq_m1, hI.1]; omega)
    · skip
      refine EV_blk (own := 7) C rfl [(.aload_n 0, 0, 0, 0, 0), (.aload_n 1, 0, 0, 0, 0), (.getfield 35, 8, 1, 195, 0), (.iload_n 2, 0, 0, 0, 0), (.iload_n 3, 0, 0, 0, 0), (.aload_n 0, 0, 0, 0, 0), (.getfield 15, 7, 1, 251, 0), (.iload 4, 0, 0, 0, 0)] (pc' := 37) (by decide +kernel) (lv' := [some (.ref 102), some (.ref 1), some (.int (nI x)), some (.int (nI y)), some (.int (nI i))]) (st' := [.int (nI i), .ref 104, .int (nI y), .int (nI x), .ref 5, .ref 102]) (I' := a) (J' := J) rfl ?_
      refine EV_iald (j := i) C (by decide +kernel) rfl (nI_toInt (by omega)) (by omega) ?_
      refine EV_blk (own := 7) C rfl [(.aload_n 0, 0, 0, 0, 0), (.getfield 18, 7, 2, 253, 0), (.iload 4, 0, 0, 0, 0)] (pc' := 44) (by decide +kernel) (lv' := [some (.ref 102), some (.ref 1), some (.int (nI x)), some (.int (nI y)), some (.int (nI i))]) (st' := [.int (nI i), .ref 105, .int (a 104 i), .int (nI y), .int (nI x), .ref 5, .ref 102]) (I' := a) (J' := J) rfl ?_
      refine EV_iald (j := i) C (by decide +kernel) rfl (nI_toInt (by omega)) (by omega) ?_
      have hq := hI.2.2 i (by omega)
      refine EV_ste (st' := [.int (nI (tq_N (a 105 i))), .int (nI (tq_N (a 104 i))), .int (nI y), .int (nI x), .ref 5, .ref 102]) (by rw [← tq_nIN hq.1.1, ← tq_nIN hq.2.1]) ?_
      refine EV_cV (own := 7) (idx := 41) (μ' := mX7_drawPieces) (b := 102) (cb := 7) (av := [.ref 5, .int (nI x), .int (nI y), .int (nI (tq_N (a 104 i))), .int (nI (tq_N (a 105 i)))]) (rest := []) C hR rfl (Or.inl ⟨683, by decide⟩) kX7_drawPieces sX7_drawPieces (c_X7_drawPieces g rest a J x y (tq_N (a 104 i)) (tq_N (a 105 i)) (tq_N5 hq.1) (tq_N15 hq.2) hI.2.1) rfl rfl (by decide +kernel) rfl (by decide) (Nat.le_of_ble_eq_true rfl) rfl ⟨Nat.zero_le _, Nat.zero_le _⟩ ?_
      refine EV_blk (own := 7) C rfl [(.iinc 4 1, 0, 0, 0, (nI 1)), (.goto (-36), 0, 0, 0, 0)] (pc' := 15) (by decide +kernel) (lv' := [some (.ref 102), some (.ref 1), some (.int (nI x)), some (.int (nI y)), some (.int ((nI i) + (nI 1)))]) (st' := []) (I' := (I_X7_drawPieces a x y (tq_N (a 104 i)) (tq_N (a 105 i)))) (J' := J) rfl ?_
      rw [show ((nI i) + (nI 1)) = (nI (i + 1)) from by simp (disch := omega) only [nI_add, tq_mul] <;> exact congrArg nI (by omega)]
      rw [tq_its, show (f_dr1 x y c) i a = (I_X7_drawPieces a x y (tq_N (a 104 i)) (tq_N (a 105 i))) from by simp only [f_dr1, if_neg h1]] at kk
      exact ih (i + 1) (I_X7_drawPieces a x y (tq_N (a 104 i)) (tq_N (a 105 i))) (by omega) (tq_drP_step hI) kk
theorem fr_dr1 (x y c : Nat) {cz : Nat} (hc : cz ≠ 102 ∧ cz ≠ 106) (n i : Nat) (a : tq_I) (jz : Nat) : (tq_it (f_dr1 x y c) n i a) cz jz = a cz jz := by
  obtain ⟨hc0, hc1⟩ := hc
  refine tq_itF (fun i a j => ?_) n i a jz
  simp only [f_dr1]
  (repeat' split) <;> simp (disch := first | assumption | (simp only [ne_eq] at *; simp [*])) [tq_u, tq_cp, hc0, hc1, fr_tb1, fr_tb2, fr_X8_touchBlock, fr_X8_touchAll, fr_X8_changeCorner, fr_X8_changePath, fr_cb1, fr_cb2, fr_X8_changeBlock, fr_wipe1, fr_X1_wipe, fr_sm1, fr_sm2, fr_X8_startMap, fr_X6_place, fr_mt1, fr_mt2, fr_X6_moveTo, fr_ch2, fr_X10_choose, fr_X1_take, fr_fgt1, fr_X5_forget, fr_X5_meet, fr_gat1, fr_X5_gather, fr_dl1, fr_dl2, fr_X7_drawLayers, fr_dp1, fr_X7_drawPieces]
theorem tq_drP_it {x y c : Nat} (n i : Nat) (a : tq_I) (h : tq_drP c a) : tq_drP c (tq_it (f_dr1 x y c) n i a) := tq_itP (tq_drP c) (fun _ _ hb => tq_drP_step hb) n i a h
theorem tq_drP_0 {x y : Nat} {I : tq_I} (h7 : tq_le5 (I 7)) : tq_drP (tq_N (I_X7_drawLayers I x y 102 3)) (tq_u (I_X7_drawLayers I x y) 102 5 (nI 0)) := by
  obtain ⟨h1, h2, h3, h4⟩ := tq_dlP_draw (x := x) (y := y) h7
  refine ⟨by rw [tq_u_slot (by decide)]; exact tq_nIN h1, by rw [tq_u_same]; decide, fun k hk => ?_⟩
  rw [tq_u_cell (by decide), tq_u_cell (by decide)]
  exact h4 k hk
theorem tq_dl4 {x y : Nat} {I : tq_I} (h7 : tq_le5 (I 7)) : tq_N (I_X7_drawLayers I x y 102 3) ≤ 4 := by
  obtain ⟨h1, h2, h3, h4⟩ := tq_dlP_draw (x := x) (y := y) h7
  unfold tq_N
  omega
def I_X7_draw (I : tq_I) (x y : Nat) : tq_I := (tq_u (tq_it (f_dr1 x y (tq_N (I_X7_drawLayers I x y 102 3))) (tq_N (I_X7_drawLayers I x y 102 3)) 0 (tq_u (I_X7_drawLayers I x y) 102 5 (nI 0))) 102 6 (r_X3_pathTileAt (tq_it (f_dr1 x y (tq_N (I_X7_drawLayers I x y 102 3))) (tq_N (I_X7_drawLayers I x y 102 3)) 0 (tq_u (I_X7_drawLayers I x y) 102 5 (nI 0))) x y ((tq_it (f_dr1 x y (tq_N (I_X7_drawLayers I x y 102 3))) (tq_N (I_X7_drawLayers I x y 102 3)) 0 (tq_u (I_X7_drawLayers I x y) 102 5 (nI 0))) 5 5)))
set_option maxRecDepth 20000 in
theorem c_X7_draw (g : tq_G) (rest : List tq_S) (I : tq_I) (J : Int64) (x y : Nat) (hx : x ≤ 9) (hy : y ≤ 9) (hT : ∀ i, i < 4 → 0 ≤ (I 3 ((y + i / 2) * 11 + (x + i % 2))).toInt ∧ (I 3 ((y + i / 2) * 11 + (x + i % 2))).toInt ≤ 5) (h7 : tq_le5 (I 7)) (hw10 : (I 2 0).toInt ≤ 10) (hh10 : (I 2 1).toInt ≤ 10) (hbd : I 5 5 = 0 ∨ I 5 5 = 1) : CT g mX7_draw 5 0 0 [.ref 102, .ref 1, .int (nI x), .int (nI y)] (tq_SC ++ rest) tq_RR I J (tq_ret (tq_SC ++ rest) tq_RR none (I_X7_draw I x y) J) := by
  refine CT.ret kX7_draw (Nat.le_of_ble_eq_true rfl) (fun x0 C hR hZ => ?_)
  refine EV_en (lv' := [some (.ref 102), some (.ref 1), some (.int (nI x)), some (.int (nI y)), none]) 1 rfl ?_
  refine EV_blk (own := 7) C rfl [(.aload_n 0, 0, 0, 0, 0), (.aload_n 1, 0, 0, 0, 0), (.iload_n 2, 0, 0, 0, 0), (.iload_n 3, 0, 0, 0, 0)] (pc' := 4) (by decide +kernel) (lv' := [some (.ref 102), some (.ref 1), some (.int (nI x)), some (.int (nI y)), none]) (st' := [.int (nI y), .int (nI x), .ref 1, .ref 102]) (I' := I) (J' := J) rfl ?_
  refine EV_cV (own := 7) (idx := 24) (μ' := mX7_drawLayers) (b := 102) (cb := 7) (av := [.ref 1, .int (nI x), .int (nI y)]) (rest := []) C hR rfl (Or.inl ⟨668, by decide⟩) kX7_drawLayers sX7_drawLayers (c_X7_drawLayers g rest I J x y (by omega) (by omega) hT h7) rfl rfl (by decide +kernel) rfl (by decide) (Nat.le_of_ble_eq_true rfl) rfl ⟨Nat.zero_le _, Nat.zero_le _⟩ ?_
  refine EV_blk (own := 7) C rfl [(.aload_n 0, 0, 0, 0, 0), (.iconst 0, 0, 0, 0, (nI 0)), (.putfield 28, 7, 5, 260, 0), (.iconst 0, 0, 0, 0, (nI 0)), (.istore 4, 0, 0, 0, 0)] (pc' := 15) (by decide +kernel) (lv' := [some (.ref 102), some (.ref 1), some (.int (nI x)), some (.int (nI y)), some (.int (nI 0))]) (st' := []) (I' := (tq_u (I_X7_drawLayers I x y) 102 5 (nI 0))) (J' := J) rfl ?_
  refine lp_dr1 C hR J x y (tq_N (I_X7_drawLayers I x y 102 3)) (tq_dl4 h7) (tq_N (I_X7_drawLayers I x y 102 3)) 0 (tq_u (I_X7_drawLayers I x y) 102 5 (nI 0)) (by omega) (tq_drP_0 h7) ?_
  refine EV_blk (own := 7) C rfl [(.aload_n 0, 0, 0, 0, 0), (.aload_n 1, 0, 0, 0, 0), (.getfield 45, 8, 0, 192, 0), (.iload_n 2, 0, 0, 0, 0), (.iload_n 3, 0, 0, 0, 0), (.aload_n 1, 0, 0, 0, 0), (.getfield 35, 8, 1, 195, 0), (.getfield 49, 6, 5, 151, 0)] (pc' := 68) (by decide +kernel) (lv' := [some (.ref 102), some (.ref 1), some (.int (nI x)), some (.int (nI y)), some (.int (nI ((0 + (tq_N (I_X7_drawLayers I x y 102 3))))))]) (st' := [.int ((tq_it (f_dr1 x y (tq_N (I_X7_drawLayers I x y 102 3))) (tq_N (I_X7_drawLayers I x y 102 3)) 0 (tq_u (I_X7_drawLayers I x y) 102 5 (nI 0))) 5 5), .int (nI y), .int (nI x), .ref 2, .ref 102]) (I' := (tq_it (f_dr1 x y (tq_N (I_X7_drawLayers I x y 102 3))) (tq_N (I_X7_drawLayers I x y 102 3)) 0 (tq_u (I_X7_drawLayers I x y) 102 5 (nI 0)))) (J' := J) rfl ?_
  refine EV_cV (own := 7) (idx := 55) (μ' := mX3_pathTileAt) (b := 2) (cb := 3) (av := [.int (nI x), .int (nI y), .int ((tq_it (f_dr1 x y (tq_N (I_X7_drawLayers I x y 102 3))) (tq_N (I_X7_drawLayers I x y 102 3)) 0 (tq_u (I_X7_drawLayers I x y) 102 5 (nI 0))) 5 5)]) (rest := [.ref 102]) C hR rfl (Or.inl ⟨699, by decide⟩) kX3_pathTileAt sX3_pathTileAt (c_X3_pathTileAt g rest (tq_it (f_dr1 x y (tq_N (I_X7_drawLayers I x y 102 3))) (tq_N (I_X7_drawLayers I x y 102 3)) 0 (tq_u (I_X7_drawLayers I x y) 102 5 (nI 0))) J x y ((tq_it (f_dr1 x y (tq_N (I_X7_drawLayers I x y 102 3))) (tq_N (I_X7_drawLayers I x y 102 3)) 0 (tq_u (I_X7_drawLayers I x y) 102 5 (nI 0))) 5 5) (by omega) (by omega) (by rw [fr_dr1 _ _ _ (by decide), tq_u_cell (by decide), fr_X7_drawLayers _ _ _ (by decide)]; exact hw10) (by rw [fr_dr1 _ _ _ (by decide), tq_u_cell (by decide), fr_X7_drawLayers _ _ _ (by decide)]; exact hh10) (by rw [fr_dr1 _ _ _ (by decide), tq_u_cell (by decide), fr_X7_drawLayers _ _ _ (by decide)]; exact hbd)) rfl rfl (by decide +kernel) rfl (by decide) (Nat.le_of_ble_eq_true rfl) rfl ⟨Nat.zero_le _, Nat.zero_le _⟩ ?_
  refine EV_blk (own := 7) C rfl [(.putfield 61, 7, 6, 263, 0)] (pc' := 74) (by decide +kernel) (lv' := [some (.ref 102), some (.ref 1), some (.int (nI x)), some (.int (nI y)), some (.int (nI ((0 + (tq_N (I_X7_drawLayers I x y 102 3))))))]) (st' := []) (I' := (tq_u (tq_it (f_dr1 x y (tq_N (I_X7_drawLayers I x y 102 3))) (tq_N (I_X7_drawLayers I x y 102 3)) 0 (tq_u (I_X7_drawLayers I x y) 102 5 (nI 0))) 102 6 (r_X3_pathTileAt (tq_it (f_dr1 x y (tq_N (I_X7_drawLayers I x y 102 3))) (tq_N (I_X7_drawLayers I x y 102 3)) 0 (tq_u (I_X7_drawLayers I x y) 102 5 (nI 0))) x y ((tq_it (f_dr1 x y (tq_N (I_X7_drawLayers I x y 102 3))) (tq_N (I_X7_drawLayers I x y 102 3)) 0 (tq_u (I_X7_drawLayers I x y) 102 5 (nI 0))) 5 5)))) (J' := J) rfl ?_
  exact EV_vret C hZ rfl (by decide +kernel) (Nat.le_refl _) (Nat.le_refl _) ⟨rfl, rfl, rfl, by simp only [I_X7_draw], rfl⟩
theorem fr_X7_draw (I : tq_I) (x y : Nat) {cz : Nat} (hc : cz ≠ 102 ∧ cz ≠ 103 ∧ cz ≠ 104 ∧ cz ≠ 105 ∧ cz ≠ 106) (jz : Nat) : I_X7_draw I x y cz jz = I cz jz := by
  obtain ⟨hc0, hc1, hc2, hc3, hc4⟩ := hc
  simp only [I_X7_draw]
  (repeat' split) <;> simp (disch := first | assumption | (simp only [ne_eq] at *; simp [*])) [tq_u, tq_cp, hc0, hc1, hc2, hc3, hc4, fr_tb1, fr_tb2, fr_X8_touchBlock, fr_X8_touchAll, fr_X8_changeCorner, fr_X8_changePath, fr_cb1, fr_cb2, fr_X8_changeBlock, fr_wipe1, fr_X1_wipe, fr_sm1, fr_sm2, fr_X8_startMap, fr_X6_place, fr_mt1, fr_mt2, fr_X6_moveTo, fr_ch2, fr_X10_choose, fr_X1_take, fr_fgt1, fr_X5_forget, fr_X5_meet, fr_gat1, fr_X5_gather, fr_dl1, fr_dl2, fr_X7_drawLayers, fr_dp1, fr_X7_drawPieces, fr_dr1]
