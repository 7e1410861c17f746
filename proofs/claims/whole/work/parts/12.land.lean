/-! TerrainTiler: its small helpers; Land -/
set_option maxRecDepth 20000 in
theorem c_X11_isWithin (g : tq_G) (rest : List tq_S) (I : tq_I) (J : Int64) (v lo hi : Int32)  : CT g mX11_isWithin 0 0 0 [.int v, .int lo, .int hi] (tq_SC ++ rest) tq_RR I J (tq_ret (tq_SC ++ rest) tq_RR (some (.int (tq_b (lo.toInt ≤ v.toInt ∧ v.toInt ≤ hi.toInt)))) I J) := by
  refine CT.ret kX11_isWithin (Nat.le_of_ble_eq_true rfl) (fun x0 C hR hZ => ?_)
  refine EV_en (lv' := [some (.int v), some (.int lo), some (.int hi)]) 0 rfl ?_
  refine EV_blk (own := 11) C rfl [(.iload_n 0, 0, 0, 0, 0), (.iload_n 1, 0, 0, 0, 0)] (pc' := 2) (by decide +kernel) (lv' := [some (.int v), some (.int lo), some (.int hi)]) (st' := [.int lo, .int v]) (I' := I) (J' := J) rfl ?_
  refine EV_icmp_lt (off := 12) (tgt := 14) C (by decide +kernel) (by decide) (fun h1 => ?_) (fun h1 => ?_)
  · skip
    refine EV_blk (own := 11) C rfl [(.iconst 0, 0, 0, 0, (nI 0))] (pc' := 15) (by decide +kernel) (lv' := [some (.int v), some (.int lo), some (.int hi)]) (st' := [.int (nI 0)]) (I' := I) (J' := J) rfl ?_
    exact EV_zret C hZ rfl (by decide) (by decide +kernel) (Nat.le_refl _) (Nat.le_refl _) ⟨tq_r0 (by simp (disch := omega) only [Int32.lt_iff_toInt_lt, Int32.le_iff_toInt_le, Int32.toInt_zero, nI_toInt] at h1 ⊢; omega), rfl, rfl, rfl, rfl⟩
  · skip
    refine EV_blk (own := 11) C rfl [(.iload_n 0, 0, 0, 0, 0), (.iload_n 2, 0, 0, 0, 0)] (pc' := 7) (by decide +kernel) (lv' := [some (.int v), some (.int lo), some (.int hi)]) (st' := [.int hi, .int v]) (I' := I) (J' := J) rfl ?_
    refine EV_icmp_gt (off := 7) (tgt := 14) C (by decide +kernel) (by decide) (fun h2 => ?_) (fun h2 => ?_)
    · skip
      refine EV_blk (own := 11) C rfl [(.iconst 0, 0, 0, 0, (nI 0))] (pc' := 15) (by decide +kernel) (lv' := [some (.int v), some (.int lo), some (.int hi)]) (st' := [.int (nI 0)]) (I' := I) (J' := J) rfl ?_
      exact EV_zret C hZ rfl (by decide) (by decide +kernel) (Nat.le_refl _) (Nat.le_refl _) ⟨tq_r0 (by simp (disch := omega) only [Int32.lt_iff_toInt_lt, Int32.le_iff_toInt_le, Int32.toInt_zero, nI_toInt] at h1 h2 ⊢; omega), rfl, rfl, rfl, rfl⟩
    · skip
      refine EV_blk (own := 11) C rfl [(.iconst 1, 0, 0, 0, (nI 1)), (.goto 4, 0, 0, 0, 0)] (pc' := 15) (by decide +kernel) (lv' := [some (.int v), some (.int lo), some (.int hi)]) (st' := [.int (nI 1)]) (I' := I) (J' := J) rfl ?_
      exact EV_zret C hZ rfl (by decide) (by decide +kernel) (Nat.le_refl _) (Nat.le_refl _) ⟨tq_r1 (by simp (disch := omega) only [Int32.lt_iff_toInt_lt, Int32.le_iff_toInt_le, Int32.toInt_zero, nI_toInt] at h1 h2 ⊢; omega), rfl, rfl, rfl, rfl⟩
set_option maxRecDepth 20000 in
theorem c_X11_isTerrain (g : tq_G) (rest : List tq_S) (I : tq_I) (J : Int64) (t : Int32)  : CT g mX11_isTerrain 1 0 0 [.int t] (tq_SC ++ rest) tq_RR I J (tq_ret (tq_SC ++ rest) tq_RR (some (.int (tq_b ((nI 0).toInt ≤ t.toInt ∧ t.toInt ≤ (nI 5).toInt)))) I J) := by
  refine CT.ret kX11_isTerrain (Nat.le_of_ble_eq_true rfl) (fun x0 C hR hZ => ?_)
  refine EV_en (lv' := [some (.int t)]) 0 rfl ?_
  refine EV_blk (own := 11) C rfl [(.iload_n 0, 0, 0, 0, 0), (.iconst 0, 0, 0, 0, (nI 0)), (.iconst 5, 0, 0, 0, (nI 5))] (pc' := 3) (by decide +kernel) (lv' := [some (.int t)]) (st' := [.int (nI 5), .int (nI 0), .int t]) (I' := I) (J' := J) rfl ?_
  refine EV_cS (own := 11) (idx := 69) (μ' := mX11_isWithin) (av := [.int t, .int (nI 0), .int (nI 5)]) (rest := []) C hR rfl (Or.inl ⟨400, by decide⟩) kX11_isWithin sX11_isWithin (c_X11_isWithin g rest I J t (nI 0) (nI 5) ) (by decide +kernel) rfl (by decide) (by decide) rfl ⟨Nat.zero_le _, Nat.zero_le _⟩ ?_
  exact EV_zret C hZ rfl tq_b01 (by decide +kernel) (Nat.le_refl _) (Nat.le_refl _) ⟨tq_some rfl, rfl, rfl, rfl, rfl⟩
set_option maxRecDepth 20000 in
theorem c_X11_cellIndex (g : tq_G) (rest : List tq_S) (I : tq_I) (J : Int64) (x y : Nat)  : CT g mX11_cellIndex 0 0 0 [.int (nI x), .int (nI y)] (tq_SC ++ rest) tq_RR I J (tq_ret (tq_SC ++ rest) tq_RR (some (.int (nI (y * 10 + x)))) I J) := by
  refine CT.ret kX11_cellIndex (Nat.le_of_ble_eq_true rfl) (fun x0 C hR hZ => ?_)
  refine EV_en (lv' := [some (.int (nI x)), some (.int (nI y))]) 0 rfl ?_
  refine EV_blk (own := 11) C rfl [(.iload_n 1, 0, 0, 0, 0), (.bipush 10, 0, 0, 0, (nI 10)), (.imul, 0, 0, 0, 0), (.iload_n 0, 0, 0, 0, 0), (.iadd, 0, 0, 0, 0)] (pc' := 6) (by decide +kernel) (lv' := [some (.int (nI x)), some (.int (nI y))]) (st' := [.int (((nI y) * (nI 10)) + (nI x))]) (I' := I) (J' := J) rfl ?_
  exact EV_iret C hZ rfl (by decide +kernel) (Nat.le_refl _) (Nat.le_refl _) ⟨tq_some (by simp only [nI_add, tq_mul]), rfl, rfl, rfl, rfl⟩
set_option maxRecDepth 20000 in
theorem c_X11_cornerIndex (g : tq_G) (rest : List tq_S) (I : tq_I) (J : Int64) (x y : Nat)  : CT g mX11_cornerIndex 0 0 0 [.int (nI x), .int (nI y)] (tq_SC ++ rest) tq_RR I J (tq_ret (tq_SC ++ rest) tq_RR (some (.int (nI (y * 11 + x)))) I J) := by
  refine CT.ret kX11_cornerIndex (Nat.le_of_ble_eq_true rfl) (fun x0 C hR hZ => ?_)
  refine EV_en (lv' := [some (.int (nI x)), some (.int (nI y))]) 0 rfl ?_
  refine EV_blk (own := 11) C rfl [(.iload_n 1, 0, 0, 0, 0), (.bipush 11, 0, 0, 0, (nI 11)), (.imul, 0, 0, 0, 0), (.iload_n 0, 0, 0, 0, 0), (.iadd, 0, 0, 0, 0)] (pc' := 6) (by decide +kernel) (lv' := [some (.int (nI x)), some (.int (nI y))]) (st' := [.int (((nI y) * (nI 11)) + (nI x))]) (I' := I) (J' := J) rfl ?_
  exact EV_iret C hZ rfl (by decide +kernel) (Nat.le_refl _) (Nat.le_refl _) ⟨tq_some (by simp only [nI_add, tq_mul]), rfl, rfl, rfl, rfl⟩
abbrev tq_cell (I : tq_I) (x y : Int32) : Prop := 0 ≤ x.toInt ∧ x.toInt < (I 2 0).toInt ∧ 0 ≤ y.toInt ∧ y.toInt < (I 2 1).toInt
abbrev tq_corner (I : tq_I) (x y : Int32) : Prop := 0 ≤ x.toInt ∧ x.toInt ≤ (I 2 0).toInt ∧ 0 ≤ y.toInt ∧ y.toInt ≤ (I 2 1).toInt
set_option maxRecDepth 20000 in
theorem c_X3_isCell (g : tq_G) (rest : List tq_S) (I : tq_I) (J : Int64) (x y : Int32)  : CT g mX3_isCell 0 0 0 [.ref 2, .int x, .int y] (tq_SC ++ rest) tq_RR I J (tq_ret (tq_SC ++ rest) tq_RR (some (.int (tq_b (tq_cell I x y)))) I J) := by
  refine CT.ret kX3_isCell (Nat.le_of_ble_eq_true rfl) (fun x0 C hR hZ => ?_)
  refine EV_en (lv' := [some (.ref 2), some (.int x), some (.int y)]) 0 rfl ?_
  refine EV_blk (own := 3) C rfl [(.iload_n 1, 0, 0, 0, 0)] (pc' := 1) (by decide +kernel) (lv' := [some (.ref 2), some (.int x), some (.int y)]) (st' := [.int x]) (I' := I) (J' := J) rfl ?_
  refine EV_if_lt (off := 27) (tgt := 28) C (by decide +kernel) (by decide) (fun h1 => ?_) (fun h1 => ?_)
  · skip
    refine EV_blk (own := 3) C rfl [(.iconst 0, 0, 0, 0, (nI 0))] (pc' := 29) (by decide +kernel) (lv' := [some (.ref 2), some (.int x), some (.int y)]) (st' := [.int (nI 0)]) (I' := I) (J' := J) rfl ?_
    exact EV_zret C hZ rfl (by decide) (by decide +kernel) (Nat.le_refl _) (Nat.le_refl _) ⟨tq_r0 (by simp (disch := omega) only [Int32.lt_iff_toInt_lt, Int32.le_iff_toInt_le, Int32.toInt_zero, nI_toInt] at h1 ⊢; omega), rfl, rfl, rfl, rfl⟩
  · skip
    refine EV_blk (own := 3) C rfl [(.iload_n 1, 0, 0, 0, 0), (.aload_n 0, 0, 0, 0, 0), (.getfield 18, 3, 0, 95, 0)] (pc' := 9) (by decide +kernel) (lv' := [some (.ref 2), some (.int x), some (.int y)]) (st' := [.int (I 2 0), .int x]) (I' := I) (J' := J) rfl ?_
    refine EV_icmp_ge (off := 19) (tgt := 28) C (by decide +kernel) (by decide) (fun h2 => ?_) (fun h2 => ?_)
    · skip
      refine EV_blk (own := 3) C rfl [(.iconst 0, 0, 0, 0, (nI 0))] (pc' := 29) (by decide +kernel) (lv' := [some (.ref 2), some (.int x), some (.int y)]) (st' := [.int (nI 0)]) (I' := I) (J' := J) rfl ?_
      exact EV_zret C hZ rfl (by decide) (by decide +kernel) (Nat.le_refl _) (Nat.le_refl _) ⟨tq_r0 (by simp (disch := omega) only [Int32.lt_iff_toInt_lt, Int32.le_iff_toInt_le, Int32.toInt_zero, nI_toInt] at h1 h2 ⊢; omega), rfl, rfl, rfl, rfl⟩
    · skip
      refine EV_blk (own := 3) C rfl [(.iload_n 2, 0, 0, 0, 0)] (pc' := 13) (by decide +kernel) (lv' := [some (.ref 2), some (.int x), some (.int y)]) (st' := [.int y]) (I' := I) (J' := J) rfl ?_
      refine EV_if_lt (off := 15) (tgt := 28) C (by decide +kernel) (by decide) (fun h3 => ?_) (fun h3 => ?_)
      · skip
        refine EV_blk (own := 3) C rfl [(.iconst 0, 0, 0, 0, (nI 0))] (pc' := 29) (by decide +kernel) (lv' := [some (.ref 2), some (.int x), some (.int y)]) (st' := [.int (nI 0)]) (I' := I) (J' := J) rfl ?_
        exact EV_zret C hZ rfl (by decide) (by decide +kernel) (Nat.le_refl _) (Nat.le_refl _) ⟨tq_r0 (by simp (disch := omega) only [Int32.lt_iff_toInt_lt, Int32.le_iff_toInt_le, Int32.toInt_zero, nI_toInt] at h1 h2 h3 ⊢; omega), rfl, rfl, rfl, rfl⟩
      · skip
        refine EV_blk (own := 3) C rfl [(.iload_n 2, 0, 0, 0, 0), (.aload_n 0, 0, 0, 0, 0), (.getfield 22, 3, 1, 99, 0)] (pc' := 21) (by decide +kernel) (lv' := [some (.ref 2), some (.int x), some (.int y)]) (st' := [.int (I 2 1), .int y]) (I' := I) (J' := J) rfl ?_
        refine EV_icmp_ge (off := 7) (tgt := 28) C (by decide +kernel) (by decide) (fun h4 => ?_) (fun h4 => ?_)
        · skip
          refine EV_blk (own := 3) C rfl [(.iconst 0, 0, 0, 0, (nI 0))] (pc' := 29) (by decide +kernel) (lv' := [some (.ref 2), some (.int x), some (.int y)]) (st' := [.int (nI 0)]) (I' := I) (J' := J) rfl ?_
          exact EV_zret C hZ rfl (by decide) (by decide +kernel) (Nat.le_refl _) (Nat.le_refl _) ⟨tq_r0 (by simp (disch := omega) only [Int32.lt_iff_toInt_lt, Int32.le_iff_toInt_le, Int32.toInt_zero, nI_toInt] at h1 h2 h3 h4 ⊢; omega), rfl, rfl, rfl, rfl⟩
        · skip
          refine EV_blk (own := 3) C rfl [(.iconst 1, 0, 0, 0, (nI 1)), (.goto 4, 0, 0, 0, 0)] (pc' := 29) (by decide +kernel) (lv' := [some (.ref 2), some (.int x), some (.int y)]) (st' := [.int (nI 1)]) (I' := I) (J' := J) rfl ?_
          exact EV_zret C hZ rfl (by decide) (by decide +kernel) (Nat.le_refl _) (Nat.le_refl _) ⟨tq_r1 (by simp (disch := omega) only [Int32.lt_iff_toInt_lt, Int32.le_iff_toInt_le, Int32.toInt_zero, nI_toInt] at h1 h2 h3 h4 ⊢; omega), rfl, rfl, rfl, rfl⟩
set_option maxRecDepth 20000 in
theorem c_X3_isCorner (g : tq_G) (rest : List tq_S) (I : tq_I) (J : Int64) (x y : Int32)  : CT g mX3_isCorner 0 0 0 [.ref 2, .int x, .int y] (tq_SC ++ rest) tq_RR I J (tq_ret (tq_SC ++ rest) tq_RR (some (.int (tq_b (tq_corner I x y)))) I J) := by
  refine CT.ret kX3_isCorner (Nat.le_of_ble_eq_true rfl) (fun x0 C hR hZ => ?_)
  refine EV_en (lv' := [some (.ref 2), some (.int x), some (.int y)]) 0 rfl ?_
  refine EV_blk (own := 3) C rfl [(.iload_n 1, 0, 0, 0, 0)] (pc' := 1) (by decide +kernel) (lv' := [some (.ref 2), some (.int x), some (.int y)]) (st' := [.int x]) (I' := I) (J' := J) rfl ?_
  refine EV_if_lt (off := 27) (tgt := 28) C (by decide +kernel) (by decide) (fun h1 => ?_) (fun h1 => ?_)
  · skip
    refine EV_blk (own := 3) C rfl [(.iconst 0, 0, 0, 0, (nI 0))] (pc' := 29) (by decide +kernel) (lv' := [some (.ref 2), some (.int x), some (.int y)]) (st' := [.int (nI 0)]) (I' := I) (J' := J) rfl ?_
    exact EV_zret C hZ rfl (by decide) (by decide +kernel) (Nat.le_refl _) (Nat.le_refl _) ⟨tq_r0 (by simp (disch := omega) only [Int32.lt_iff_toInt_lt, Int32.le_iff_toInt_le, Int32.toInt_zero, nI_toInt] at h1 ⊢; omega), rfl, rfl, rfl, rfl⟩
  · skip
    refine EV_blk (own := 3) C rfl [(.iload_n 1, 0, 0, 0, 0), (.aload_n 0, 0, 0, 0, 0), (.getfield 18, 3, 0, 95, 0)] (pc' := 9) (by decide +kernel) (lv' := [some (.ref 2), some (.int x), some (.int y)]) (st' := [.int (I 2 0), .int x]) (I' := I) (J' := J) rfl ?_
    refine EV_icmp_gt (off := 19) (tgt := 28) C (by decide +kernel) (by decide) (fun h2 => ?_) (fun h2 => ?_)
    · skip
      refine EV_blk (own := 3) C rfl [(.iconst 0, 0, 0, 0, (nI 0))] (pc' := 29) (by decide +kernel) (lv' := [some (.ref 2), some (.int x), some (.int y)]) (st' := [.int (nI 0)]) (I' := I) (J' := J) rfl ?_
      exact EV_zret C hZ rfl (by decide) (by decide +kernel) (Nat.le_refl _) (Nat.le_refl _) ⟨tq_r0 (by simp (disch := omega) only [Int32.lt_iff_toInt_lt, Int32.le_iff_toInt_le, Int32.toInt_zero, nI_toInt] at h1 h2 ⊢; omega), rfl, rfl, rfl, rfl⟩
    · skip
      refine EV_blk (own := 3) C rfl [(.iload_n 2, 0, 0, 0, 0)] (pc' := 13) (by decide +kernel) (lv' := [some (.ref 2), some (.int x), some (.int y)]) (st' := [.int y]) (I' := I) (J' := J) rfl ?_
      refine EV_if_lt (off := 15) (tgt := 28) C (by decide +kernel) (by decide) (fun h3 => ?_) (fun h3 => ?_)
      · skip
        refine EV_blk (own := 3) C rfl [(.iconst 0, 0, 0, 0, (nI 0))] (pc' := 29) (by decide +kernel) (lv' := [some (.ref 2), some (.int x), some (.int y)]) (st' := [.int (nI 0)]) (I' := I) (J' := J) rfl ?_
        exact EV_zret C hZ rfl (by decide) (by decide +kernel) (Nat.le_refl _) (Nat.le_refl _) ⟨tq_r0 (by simp (disch := omega) only [Int32.lt_iff_toInt_lt, Int32.le_iff_toInt_le, Int32.toInt_zero, nI_toInt] at h1 h2 h3 ⊢; omega), rfl, rfl, rfl, rfl⟩
      · skip
        refine EV_blk (own := 3) C rfl [(.iload_n 2, 0, 0, 0, 0), (.aload_n 0, 0, 0, 0, 0), (.getfield 22, 3, 1, 99, 0)] (pc' := 21) (by decide +kernel) (lv' := [some (.ref 2), some (.int x), some (.int y)]) (st' := [.int (I 2 1), .int y]) (I' := I) (J' := J) rfl ?_
        refine EV_icmp_gt (off := 7) (tgt := 28) C (by decide +kernel) (by decide) (fun h4 => ?_) (fun h4 => ?_)
        · skip
          refine EV_blk (own := 3) C rfl [(.iconst 0, 0, 0, 0, (nI 0))] (pc' := 29) (by decide +kernel) (lv' := [some (.ref 2), some (.int x), some (.int y)]) (st' := [.int (nI 0)]) (I' := I) (J' := J) rfl ?_
          exact EV_zret C hZ rfl (by decide) (by decide +kernel) (Nat.le_refl _) (Nat.le_refl _) ⟨tq_r0 (by simp (disch := omega) only [Int32.lt_iff_toInt_lt, Int32.le_iff_toInt_le, Int32.toInt_zero, nI_toInt] at h1 h2 h3 h4 ⊢; omega), rfl, rfl, rfl, rfl⟩
        · skip
          refine EV_blk (own := 3) C rfl [(.iconst 1, 0, 0, 0, (nI 1)), (.goto 4, 0, 0, 0, 0)] (pc' := 29) (by decide +kernel) (lv' := [some (.ref 2), some (.int x), some (.int y)]) (st' := [.int (nI 1)]) (I' := I) (J' := J) rfl ?_
          exact EV_zret C hZ rfl (by decide) (by decide +kernel) (Nat.le_refl _) (Nat.le_refl _) ⟨tq_r1 (by simp (disch := omega) only [Int32.lt_iff_toInt_lt, Int32.le_iff_toInt_le, Int32.toInt_zero, nI_toInt] at h1 h2 h3 h4 ⊢; omega), rfl, rfl, rfl, rfl⟩
set_option maxRecDepth 20000 in
theorem c_X3_terrainAt (g : tq_G) (rest : List tq_S) (I : tq_I) (J : Int64) (x y : Nat) (hx : x ≤ 10) (hy : y ≤ 10) : CT g mX3_terrainAt 1 0 0 [.ref 2, .int (nI x), .int (nI y)] (tq_SC ++ rest) tq_RR I J (tq_ret (tq_SC ++ rest) tq_RR (some (.int (I 3 (y * 11 + x)))) I J) := by
  refine CT.ret kX3_terrainAt (Nat.le_of_ble_eq_true rfl) (fun x0 C hR hZ => ?_)
  refine EV_en (lv' := [some (.ref 2), some (.int (nI x)), some (.int (nI y))]) 0 rfl ?_
  refine EV_blk (own := 3) C rfl [(.aload_n 0, 0, 0, 0, 0), (.getfield 9, 3, 2, 103, 0), (.iload_n 1, 0, 0, 0, 0), (.iload_n 2, 0, 0, 0, 0)] (pc' := 6) (by decide +kernel) (lv' := [some (.ref 2), some (.int (nI x)), some (.int (nI y))]) (st' := [.int (nI y), .int (nI x), .ref 3]) (I' := I) (J' := J) rfl ?_
  refine EV_cS (own := 3) (idx := 31) (μ' := mX11_cornerIndex) (av := [.int (nI x), .int (nI y)]) (rest := [.ref 3]) C hR rfl (Or.inr ⟨458, by decide⟩) kX11_cornerIndex sX11_cornerIndex (c_X11_cornerIndex g rest I J x y ) (by decide +kernel) rfl (by decide) (by decide) rfl ⟨Nat.zero_le _, Nat.zero_le _⟩ ?_
  refine EV_iald (j := (y * 11 + x)) C (by decide +kernel) rfl (nI_toInt (by omega)) (by omega) ?_
  exact EV_iret C hZ rfl (by decide +kernel) (Nat.le_refl _) (Nat.le_refl _) ⟨rfl, rfl, rfl, rfl, rfl⟩
set_option maxRecDepth 20000 in
theorem c_X3_pathAt (g : tq_G) (rest : List tq_S) (I : tq_I) (J : Int64) (x y : Nat) (hx : x ≤ 9) (hy : y ≤ 9) : CT g mX3_pathAt 1 0 0 [.ref 2, .int (nI x), .int (nI y)] (tq_SC ++ rest) tq_RR I J (tq_ret (tq_SC ++ rest) tq_RR (some (.int (I 4 (y * 10 + x)))) I J) := by
  refine CT.ret kX3_pathAt (Nat.le_of_ble_eq_true rfl) (fun x0 C hR hZ => ?_)
  refine EV_en (lv' := [some (.ref 2), some (.int (nI x)), some (.int (nI y))]) 0 rfl ?_
  refine EV_blk (own := 3) C rfl [(.aload_n 0, 0, 0, 0, 0), (.getfield 15, 3, 3, 106, 0), (.iload_n 1, 0, 0, 0, 0), (.iload_n 2, 0, 0, 0, 0)] (pc' := 6) (by decide +kernel) (lv' := [some (.ref 2), some (.int (nI x)), some (.int (nI y))]) (st' := [.int (nI y), .int (nI x), .ref 4]) (I' := I) (J' := J) rfl ?_
  refine EV_cS (own := 3) (idx := 35) (μ' := mX11_cellIndex) (av := [.int (nI x), .int (nI y)]) (rest := [.ref 4]) C hR rfl (Or.inr ⟨445, by decide⟩) kX11_cellIndex sX11_cellIndex (c_X11_cellIndex g rest I J x y ) (by decide +kernel) rfl (by decide) (by decide) rfl ⟨Nat.zero_le _, Nat.zero_le _⟩ ?_
  refine EV_iald (j := (y * 10 + x)) C (by decide +kernel) rfl (nI_toInt (by omega)) (by omega) ?_
  exact EV_iret C hZ rfl (by decide +kernel) (Nat.le_refl _) (Nat.le_refl _) ⟨rfl, rfl, rfl, rfl, rfl⟩
