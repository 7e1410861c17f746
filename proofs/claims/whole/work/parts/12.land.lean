/-! TerrainTiler: its small helpers; Land -/
set_option maxRecDepth 20000 in
theorem c_X11_isWithin (g : tq_G) (rest : List tq_S) (I : tq_I) (J : Int64) (v lo hi : Int32)  : CT g mX11_isWithin 0 0 0 [.int v, .int lo, .int hi] (tq_SC ++ rest) tq_RR I J (tq_ret (tq_SC ++ rest) tq_RR (some (.int (tq_b (lo.toInt ≤ v.toInt ∧ v.toInt ≤ hi.toInt)))) I J) := by
  refine CT.ret kX11_isWithin (Nat.le_of_ble_eq_true rfl) (fun x0 C hR hZ => ?_)
  refine EV_en (lv' := [some (.int v), some (.int lo), some (.int hi)]) 0 rfl ?_
  refine EV_blk (own := 11) C rfl [(.iload_n 0, 0, 0, 0, 0), (.iload_n 1, 0, 0, 0, 0)] (pc' := 2) (by decide +kernel) (lv' := [some (.int v), some (.int lo), some (.int hi)]) (st' := [.int lo, .int v]) (I' := I) (J' := J) rfl ?_
  refine EV_icmp_lt (off := 12) (tgt := 14) C (by decide +kernel) (by decide) (fun h1 => ?_) (fun h1 => ?_)
  · skip
    refine EV_blk (own := 11) C rfl [(.iconst 0, 0, 0, 0, (nI 0))] (pc' := 15) (by decide +kernel) (lv' := [some (.int v), some (.int lo), some (.int hi)]) (st' := [.int (nI 0)]) (I' := I) (J' := J) rfl ?_
    exact EV_zret C hZ rfl (by decide) (by decide +kernel) (Nat.le_refl _) (Nat.le_refl _) ⟨tq_r0 (by simp (disch := omega) only [Int32.lt_iff_toInt_lt, Int32.le_iff_toInt_le, Int32.toInt_zero, nI_toInt] at h1 ⊢; omega), rfl, rfl, rfl, rfl⟩
  · skip
    refine EV_blk (own := 11) C rfl [(.iload_n 0, 0, 0, 0, 0), (.iload_n 2, 0, 0, 0, 0)] (pc' := 7) (by decide +kernel) (lv' := [some (.int v), some (.int lo), some (.int hi)]) (st' := [.int hi, .int v]) (I' := I) (J' := J) rfl ?_
    refine EV_icmp_gt (off := 7) (tgt := 14) C (by decide +kernel) (by decide) (fun h2 => ?_) (fun h2 => ?_)
    · skip
      refine EV_blk (own := 11) C rfl [(.iconst 0, 0, 0, 0, (nI 0))] (pc' := 15) (by decide +kernel) (lv' := [some (.int v), some (.int lo), some (.int hi)]) (st' := [.int (nI 0)]) (I' := I) (J' := J) rfl ?_
      exact EV_zret C hZ rfl (by decide) (by decide +kernel) (Nat.le_refl _) (Nat.le_refl _) ⟨tq_r0 (by simp (disch := omega) only [Int32.lt_iff_toInt_lt, Int32.le_iff_toInt_le, Int32.toInt_zero, nI_toInt] at h1 h2 ⊢; omega), rfl, rfl, rfl, rfl⟩
    · skip
      refine EV_blk (own := 11) C rfl [(.iconst 1, 0, 0, 0, (nI 1)), (.goto 4, 0, 0, 0, 0)] (pc' := 15) (by decide +kernel) (lv' := [some (.int v), some (.int lo), some (.int hi)]) (st' := [.int (nI 1)]) (I' := I) (J' := J) rfl ?_
      exact EV_zret C hZ rfl (by decide) (by decide +kernel) (Nat.le_refl _) (Nat.le_refl _) ⟨tq_r1 (by simp (disch := omega) only [Int32.lt_iff_toInt_lt, Int32.le_iff_toInt_le, Int32.toInt_zero, nI_toInt] at h1 h2 ⊢; omega), rfl, rfl, rfl, rfl⟩
set_option maxRecDepth 20000 in
theorem c_X11_isTerrain (g : tq_G) (rest : List tq_S) (I : tq_I) (J : Int64) (t : Int32)  : CT g mX11_isTerrain 1 0 0 [.int t] (tq_SC ++ rest) tq_RR I J (tq_ret (tq_SC ++ rest) tq_RR (some (.int (tq_b ((nI 0).toInt ≤ t.toInt ∧ t.toInt ≤ (nI 5).toInt)))) I J) := by
  refine CT.ret kX11_isTerrain (Nat.le_of_ble_eq_true rfl) (fun x0 C hR hZ => ?_)
  refine EV_en (lv' := [some (.int t)]) 0 rfl ?_
  refine EV_blk (own := 11) C rfl [(.iload_n 0, 0, 0, 0, 0), (.iconst 0, 0, 0, 0, (nI 0)), (.iconst 5, 0, 0, 0, (nI 5))] (pc' := 3) (by decide +kernel) (lv' := [some (.int t)]) (st' := [.int (nI 5), .int (nI 0), .int t]) (I' := I) (J' := J) rfl ?_
  refine EV_cS (own := 11) (idx := 69) (μ' := mX11_isWithin) (av := [.int t, .int (nI 0), .int (nI 5)]) (rest := []) C hR rfl (Or.inl ⟨400, by decide⟩) kX11_isWithin sX11_isWithin (c_X11_isWithin g rest I J t (nI 0) (nI 5) ) (by decide +kernel) rfl (by decide) (Nat.le_of_ble_eq_true rfl) rfl ⟨Nat.zero_le _, Nat.zero_le _⟩ ?_
  exact EV_zret C hZ rfl tq_b01 (by decide +kernel) (Nat.le_refl _) (Nat.le_refl _) ⟨tq_some rfl, rfl, rfl, rfl, rfl⟩
set_option maxRecDepth 20000 in
theorem c_X11_cellIndex (g : tq_G) (rest : List tq_S) (I : tq_I) (J : Int64) (x y : Nat)  : CT g mX11_cellIndex 0 0 0 [.int (nI x), .int (nI y)] (tq_SC ++ rest) tq_RR I J (tq_ret (tq_SC ++ rest) tq_RR (some (.int (nI (y * 10 + x)))) I J) := by
  refine CT.ret kX11_cellIndex (Nat.le_of_ble_eq_true rfl) (fun x0 C hR hZ => ?_)
  refine EV_en (lv' := [some (.int (nI x)), some (.int (nI y))]) 0 rfl ?_
  refine EV_blk (own := 11) C rfl [(.iload_n 1, 0, 0, 0, 0), (.bipush 10, 0, 0, 0, (nI 10)), (.imul, 0, 0, 0, 0), (.iload_n 0, 0, 0, 0, 0), (.iadd, 0, 0, 0, 0)] (pc' := 6) (by decide +kernel) (lv' := [some (.int (nI x)), some (.int (nI y))]) (st' := [.int (((nI y) * (nI 10)) + (nI x))]) (I' := I) (J' := J) rfl ?_
  exact EV_iret C hZ rfl (by decide +kernel) (Nat.le_refl _) (Nat.le_refl _) ⟨tq_some (by simp only [nI_add, tq_mul]), rfl, rfl, rfl, rfl⟩
set_option maxRecDepth 20000 in
theorem c_X11_cornerIndex (g : tq_G) (rest : List tq_S) (I : tq_I) (J : Int64) (x y : Nat)  : CT g mX11_cornerIndex 0 0 0 [.int (nI x), .int (nI y)] (tq_SC ++ rest) tq_RR I J (tq_ret (tq_SC ++ rest) tq_RR (some (.int (nI (y * 11 + x)))) I J) := by
  refine CT.ret kX11_cornerIndex (Nat.le_of_ble_eq_true rfl) (fun x0 C hR hZ => ?_)
  refine EV_en (lv' := [some (.int (nI x)), some (.int (nI y))]) 0 rfl ?_
  refine EV_blk (own := 11) C rfl [(.iload_n 1, 0, 0, 0, 0), (.bipush 11, 0, 0, 0, (nI 11)), (.imul, 0, 0, 0, 0), (.iload_n 0, 0, 0, 0, 0), (.iadd, 0, 0, 0, 0)] (pc' := 6) (by decide +kernel) (lv' := [some (.int (nI x)), some (.int (nI y))]) (st' := [.int (((nI y) * (nI 11)) + (nI x))]) (I' := I) (J' := J) rfl ?_
  exact EV_iret C hZ rfl (by decide +kernel) (Nat.le_refl _) (Nat.le_refl _) ⟨tq_some (by simp only [nI_add, tq_mul]), rfl, rfl, rfl, rfl⟩
abbrev tq_cell (I : tq_I) (x y : Int32) : Prop := 0 ≤ x.toInt ∧ x.toInt < (I 2 0).toInt ∧ 0 ≤ y.toInt ∧ y.toInt < (I 2 1).toInt
abbrev tq_corner (I : tq_I) (x y : Int32) : Prop := 0 ≤ x.toInt ∧ x.toInt ≤ (I 2 0).toInt ∧ 0 ≤ y.toInt ∧ y.toInt ≤ (I 2 1).toInt
set_option maxRecDepth 20000 in
theorem c_X3_isCell (g : tq_G) (rest : List tq_S) (I : tq_I) (J : Int64) (x y : Int32)  : CT g mX3_isCell 0 0 0 [.ref 2, .int x, .int y] (tq_SC ++ rest) tq_RR I J (tq_ret (tq_SC ++ rest) tq_RR (some (.int (tq_b (tq_cell I x y)))) I J) := by
  refine CT.ret kX3_isCell (Nat.le_of_ble_eq_true rfl) (fun x0 C hR hZ => ?_)
  refine EV_en (lv' := [some (.ref 2), some (.int x), some (.int y)]) 0 rfl ?_
  refine EV_blk (own := 3) C rfl [(.iload_n 1, 0, 0, 0, 0)] (pc' := 1) (by decide +kernel) (lv' := [some (.ref 2), some (.int x), some (.int y)]) (st' := [.int x]) (I' := I) (J' := J) rfl ?_
  refine EV_if_lt (off := 27) (tgt := 28) C (by decide +kernel) (by decide) (fun h1 => ?_) (fun h1 => ?_)
  · skip
    refine EV_blk (own := 3) C rfl [(.iconst 0, 0, 0, 0, (nI 0))] (pc' := 29) (by decide +kernel) (lv' := [some (.ref 2), some (.int x), some (.int y)]) (st' := [.int (nI 0)]) (I' := I) (J' := J) rfl ?_
    exact EV_zret C hZ rfl (by decide) (by decide +kernel) (Nat.le_refl _) (Nat.le_refl _) ⟨tq_r0 (by simp (disch := omega) only [Int32.lt_iff_toInt_lt, Int32.le_iff_toInt_le, Int32.toInt_zero, nI_toInt] at h1 ⊢; omega), rfl, rfl, rfl, rfl⟩
  · skip
    refine EV_blk (own := 3) C rfl [(.iload_n 1, 0, 0, 0, 0), (.aload_n 0, 0, 0, 0, 0), (.getfield 18, 3, 0, 95, 0)] (pc' := 9) (by decide +kernel) (lv' := [some (.ref 2), some (.int x), some (.int y)]) (st' := [.int (I 2 0), .int x]) (I' := I) (J' := J) rfl ?_
    refine EV_icmp_ge (off := 19) (tgt := 28) C (by decide +kernel) (by decide) (fun h2 => ?_) (fun h2 => ?_)
    · skip
      refine EV_blk (own := 3) C rfl [(.iconst 0, 0, 0, 0, (nI 0))] (pc' := 29) (by decide +kernel) (lv' := [some (.ref 2), some (.int x), some (.int y)]) (st' := [.int (nI 0)]) (I' := I) (J' := J) rfl ?_
      exact EV_zret C hZ rfl (by decide) (by decide +kernel) (Nat.le_refl _) (Nat.le_refl _) ⟨tq_r0 (by simp (disch := omega) only [Int32.lt_iff_toInt_lt, Int32.le_iff_toInt_le, Int32.toInt_zero, nI_toInt] at h1 h2 ⊢; omega), rfl, rfl, rfl, rfl⟩
    · skip
      refine EV_blk (own := 3) C rfl [(.iload_n 2, 0, 0, 0, 0)] (pc' := 13) (by decide +kernel) (lv' := [some (.ref 2), some (.int x), some (.int y)]) (st' := [.int y]) (I' := I) (J' := J) rfl ?_
      refine EV_if_lt (off := 15) (tgt := 28) C (by decide +kernel) (by decide) (fun h3 => ?_) (fun h3 => ?_)
      · skip
        refine EV_blk (own := 3) C rfl [(.iconst 0, 0, 0, 0, (nI 0))] (pc' := 29) (by decide +kernel) (lv' := [some (.ref 2), some (.int x), some (.int y)]) (st' := [.int (nI 0)]) (I' := I) (J' := J) rfl ?_
        exact EV_zret C hZ rfl (by decide) (by decide +kernel) (Nat.le_refl _) (Nat.le_refl _) ⟨tq_r0 (by simp (disch := omega) only [Int32.lt_iff_toInt_lt, Int32.le_iff_toInt_le, Int32.toInt_zero, nI_toInt] at h1 h2 h3 ⊢; omega), rfl, rfl, rfl, rfl⟩
      · skip
        refine EV_blk (own := 3) C rfl [(.iload_n 2, 0, 0, 0, 0), (.aload_n 0, 0, 0, 0, 0), (.getfield 22, 3, 1, 99, 0)] (pc' := 21) (by decide +kernel) (lv' := [some (.ref 2), some (.int x), some (.int y)]) (st' := [.int (I 2 1), .int y]) (I' := I) (J' := J) rfl ?_
        refine EV_icmp_ge (off := 7) (tgt := 28) C (by decide +kernel) (by decide) (fun h4 => ?_) (fun h4 => ?_)
        · skip
          refine EV_blk (own := 3) C rfl [(.iconst 0, 0, 0, 0, (nI 0))] (pc' := 29) (by decide +kernel) (lv' := [some (.ref 2), some (.int x), some (.int y)]) (st' := [.int (nI 0)]) (I' := I) (J' := J) rfl ?_
          exact EV_zret C hZ rfl (by decide) (by decide +kernel) (Nat.le_refl _) (Nat.le_refl _) ⟨tq_r0 (by simp (disch := omega) only [Int32.lt_iff_toInt_lt, Int32.le_iff_toInt_le, Int32.toInt_zero, nI_toInt] at h1 h2 h3 h4 ⊢; omega), rfl, rfl, rfl, rfl⟩
        · skip
          refine EV_blk (own := 3) C rfl [(.iconst 1, 0, 0, 0, (nI 1)), (.goto 4, 0, 0, 0, 0)] (pc' := 29) (by decide +kernel) (lv' := [some (.ref 2), some (.int x), some (.int y)]) (st' := [.int (nI 1)]) (I' := I) (J' := J) rfl ?_
          exact EV_zret C hZ rfl (by decide) (by decide +kernel) (Nat.le_refl _) (Nat.le_refl _) ⟨tq_r1 (by simp (disch := omega) only [Int32.lt_iff_toInt_lt, Int32.le_iff_toInt_le, Int32.toInt_zero, nI_toInt] at h1 h2 h3 h4 ⊢; omega), rfl, rfl, rfl, rfl⟩
set_option maxRecDepth 20000 in
theorem c_X3_isCorner (g : tq_G) (rest : List tq_S) (I : tq_I) (J : Int64) (x y : Int32)  : CT g mX3_isCorner 0 0 0 [.ref 2, .int x, .int y] (tq_SC ++ rest) tq_RR I J (tq_ret (tq_SC ++ rest) tq_RR (some (.int (tq_b (tq_corner I x y)))) I J) := by
  refine CT.ret kX3_isCorner (Nat.le_of_ble_eq_true rfl) (fun x0 C hR hZ => ?_)
  refine EV_en (lv' := [some (.ref 2), some (.int x), some (.int y)]) 0 rfl ?_
  refine EV_blk (own := 3) C rfl [(.iload_n 1, 0, 0, 0, 0)] (pc' := 1) (by decide +kernel) (lv' := [some (.ref 2), some (.int x), some (.int y)]) (st' := [.int x]) (I' := I) (J' := J) rfl ?_
  refine EV_if_lt (off := 27) (tgt := 28) C (by decide +kernel) (by decide) (fun h1 => ?_) (fun h1 => ?_)
  · skip
    refine EV_blk (own := 3) C rfl [(.iconst 0, 0, 0, 0, (nI 0))] (pc' := 29) (by decide +kernel) (lv' := [some (.ref 2), some (.int x), some (.int y)]) (st' := [.int (nI 0)]) (I' := I) (J' := J) rfl ?_
    exact EV_zret C hZ rfl (by decide) (by decide +kernel) (Nat.le_refl _) (Nat.le_refl _) ⟨tq_r0 (by simp (disch := omega) only [Int32.lt_iff_toInt_lt, Int32.le_iff_toInt_le, Int32.toInt_zero, nI_toInt] at h1 ⊢; omega), rfl, rfl, rfl, rfl⟩
  · skip
    refine EV_blk (own := 3) C rfl [(.iload_n 1, 0, 0, 0, 0), (.aload_n 0, 0, 0, 0, 0), (.getfield 18, 3, 0, 95, 0)] (pc' := 9) (by decide +kernel) (lv' := [some (.ref 2), some (.int x), some (.int y)]) (st' := [.int (I 2 0), .int x]) (I' := I) (J' := J) rfl ?_
    refine EV_icmp_gt (off := 19) (tgt := 28) C (by decide +kernel) (by decide) (fun h2 => ?_) (fun h2 => ?_)
    · skip
      refine EV_blk (own := 3) C rfl [(.iconst 0, 0, 0, 0, (nI 0))] (pc' := 29) (by decide +kernel) (lv' := [some (.ref 2), some (.int x), some (.int y)]) (st' := [.int (nI 0)]) (I' := I) (J' := J) rfl ?_
      exact EV_zret C hZ rfl (by decide) (by decide +kernel) (Nat.le_refl _) (Nat.le_refl _) ⟨tq_r0 (by simp (disch := omega) only [Int32.lt_iff_toInt_lt, Int32.le_iff_toInt_le, Int32.toInt_zero, nI_toInt] at h1 h2 ⊢; omega), rfl, rfl, rfl, rfl⟩
    · skip
      refine EV_blk (own := 3) C rfl [(.iload_n 2, 0, 0, 0, 0)] (pc' := 13) (by decide +kernel) (lv' := [some (.ref 2), some (.int x), some (.int y)]) (st' := [.int y]) (I' := I) (J' := J) rfl ?_
      refine EV_if_lt (off := 15) (tgt := 28) C (by decide +kernel) (by decide) (fun h3 => ?_) (fun h3 => ?_)
      · skip
        refine EV_blk (own := 3) C rfl [(.iconst 0, 0, 0, 0, (nI 0))] (pc' := 29) (by decide +kernel) (lv' := [some (.ref 2), some (.int x), some (.int y)]) (st' := [.int (nI 0)]) (I' := I) (J' := J) rfl ?_
        exact EV_zret C hZ rfl (by decide) (by decide +kernel) (Nat.le_refl _) (Nat.le_refl _) ⟨tq_r0 (by simp (disch := omega) only [Int32.lt_iff_toInt_lt, Int32.le_iff_toInt_le, Int32.toInt_zero, nI_toInt] at h1 h2 h3 ⊢; omega), rfl, rfl, rfl, rfl⟩
      · skip
        refine EV_blk (own := 3) C rfl [(.iload_n 2, 0, 0, 0, 0), (.aload_n 0, 0, 0, 0, 0), (.getfield 22, 3, 1, 99, 0)] (pc' := 21) (by decide +kernel) (lv' := [some (.ref 2), some (.int x), some (.int y)]) (st' := [.int (I 2 1), .int y]) (I' := I) (J' := J) rfl ?_
        refine EV_icmp_gt (off := 7) (tgt := 28) C (by decide +kernel) (by decide) (fun h4 => ?_) (fun h4 => ?_)
        · skip
          refine EV_blk (own := 3) C rfl [(.iconst 0, 0, 0, 0, (nI 0))] (pc' := 29) (by decide +kernel) (lv' := [some (.ref 2), some (.int x), some (.int y)]) (st' := [.int (nI 0)]) (I' := I) (J' := J) rfl ?_
          exact EV_zret C hZ rfl (by decide) (by decide +kernel) (Nat.le_refl _) (Nat.le_refl _) ⟨tq_r0 (by simp (disch := omega) only [Int32.lt_iff_toInt_lt, Int32.le_iff_toInt_le, Int32.toInt_zero, nI_toInt] at h1 h2 h3 h4 ⊢; omega), rfl, rfl, rfl, rfl⟩
        · skip
          refine EV_blk (own := 3) C rfl [(.iconst 1, 0, 0, 0, (nI 1)), (.goto 4, 0, 0, 0, 0)] (pc' := 29) (by decide +kernel) (lv' := [some (.ref 2), some (.int x), some (.int y)]) (st' := [.int (nI 1)]) (I' := I) (J' := J) rfl ?_
          exact EV_zret C hZ rfl (by decide) (by decide +kernel) (Nat.le_refl _) (Nat.le_refl _) ⟨tq_r1 (by simp (disch := omega) only [Int32.lt_iff_toInt_lt, Int32.le_iff_toInt_le, Int32.toInt_zero, nI_toInt] at h1 h2 h3 h4 ⊢; omega), rfl, rfl, rfl, rfl⟩
set_option maxRecDepth 20000 in
theorem c_X3_terrainAt (g : tq_G) (rest : List tq_S) (I : tq_I) (J : Int64) (x y : Nat) (hx : x ≤ 10) (hy : y ≤ 10) : CT g mX3_terrainAt 1 0 0 [.ref 2, .int (nI x), .int (nI y)] (tq_SC ++ rest) tq_RR I J (tq_ret (tq_SC ++ rest) tq_RR (some (.int (I 3 (y * 11 + x)))) I J) := by
  refine CT.ret kX3_terrainAt (Nat.le_of_ble_eq_true rfl) (fun x0 C hR hZ => ?_)
  refine EV_en (lv' := [some (.ref 2), some (.int (nI x)), some (.int (nI y))]) 0 rfl ?_
  refine EV_blk (own := 3) C rfl [(.aload_n 0, 0, 0, 0, 0), (.getfield 9, 3, 2, 103, 0), (.iload_n 1, 0, 0, 0, 0), (.iload_n 2, 0, 0, 0, 0)] (pc' := 6) (by decide +kernel) (lv' := [some (.ref 2), some (.int (nI x)), some (.int (nI y))]) (st' := [.int (nI y), .int (nI x), .ref 3]) (I' := I) (J' := J) rfl ?_
  refine EV_cS (own := 3) (idx := 31) (μ' := mX11_cornerIndex) (av := [.int (nI x), .int (nI y)]) (rest := [.ref 3]) C hR rfl (Or.inr ⟨458, by decide⟩) kX11_cornerIndex sX11_cornerIndex (c_X11_cornerIndex g rest I J x y ) (by decide +kernel) rfl (by decide) (Nat.le_of_ble_eq_true rfl) rfl ⟨Nat.zero_le _, Nat.zero_le _⟩ ?_
  refine EV_iald (j := (y * 11 + x)) C (by decide +kernel) rfl (nI_toInt (by omega)) (by omega) ?_
  exact EV_iret C hZ rfl (by decide +kernel) (Nat.le_refl _) (Nat.le_refl _) ⟨rfl, rfl, rfl, rfl, rfl⟩
set_option maxRecDepth 20000 in
theorem c_X3_pathAt (g : tq_G) (rest : List tq_S) (I : tq_I) (J : Int64) (x y : Nat) (hx : x ≤ 9) (hy : y ≤ 9) : CT g mX3_pathAt 1 0 0 [.ref 2, .int (nI x), .int (nI y)] (tq_SC ++ rest) tq_RR I J (tq_ret (tq_SC ++ rest) tq_RR (some (.int (I 4 (y * 10 + x)))) I J) := by
  refine CT.ret kX3_pathAt (Nat.le_of_ble_eq_true rfl) (fun x0 C hR hZ => ?_)
  refine EV_en (lv' := [some (.ref 2), some (.int (nI x)), some (.int (nI y))]) 0 rfl ?_
  refine EV_blk (own := 3) C rfl [(.aload_n 0, 0, 0, 0, 0), (.getfield 15, 3, 3, 106, 0), (.iload_n 1, 0, 0, 0, 0), (.iload_n 2, 0, 0, 0, 0)] (pc' := 6) (by decide +kernel) (lv' := [some (.ref 2), some (.int (nI x)), some (.int (nI y))]) (st' := [.int (nI y), .int (nI x), .ref 4]) (I' := I) (J' := J) rfl ?_
  refine EV_cS (own := 3) (idx := 35) (μ' := mX11_cellIndex) (av := [.int (nI x), .int (nI y)]) (rest := [.ref 4]) C hR rfl (Or.inr ⟨445, by decide⟩) kX11_cellIndex sX11_cellIndex (c_X11_cellIndex g rest I J x y ) (by decide +kernel) rfl (by decide) (Nat.le_of_ble_eq_true rfl) rfl ⟨Nat.zero_le _, Nat.zero_le _⟩ ?_
  refine EV_iald (j := (y * 10 + x)) C (by decide +kernel) rfl (nI_toInt (by omega)) (by omega) ?_
  exact EV_iret C hZ rfl (by decide +kernel) (Nat.le_refl _) (Nat.le_refl _) ⟨rfl, rfl, rfl, rfl, rfl⟩
def f_countPaths1 (I : tq_I) (w h : Nat) (y : Nat) (i : Nat) (a : Int32) : Int32 := (a + (I 4 (y * 10 + i)))
set_option maxRecDepth 20000 in
theorem lp_countPaths1 {g : tq_G} {rest : List tq_S} {x0 : tq_X} (C : tq_C g mX3_countPaths x0) (hR : tq_ht x0 2 0 0) (I : tq_I) (J : Int64) (w h : Nat) (y : Nat) (hw : I 2 0 = nI w) (hw10 : w ≤ 10) (hy : y ≤ 9) : ∀ (n i : Nat) (a : Int32), i + n = w → EV g mX3_countPaths x0 0 0 37 [some (.ref 2), some (.int (tq_it (f_countPaths1 I w h y) n i a)), some (.int (nI y)), some (.int (nI (i + n)))] [] (tq_SC ++ rest) tq_RR I J → EV g mX3_countPaths x0 0 0 14 [some (.ref 2), some (.int a), some (.int (nI y)), some (.int (nI i))] [] (tq_SC ++ rest) tq_RR I J := by
  intro n
  induction n with
  | zero =>
    intro i a hi kk
    rw [Nat.add_zero] at kk
    refine EV_blk (own := 3) C rfl [(.iload_n 3, 0, 0, 0, 0), (.aload_n 0, 0, 0, 0, 0), (.getfield 18, 3, 0, 95, 0)] (pc' := 19) (by decide +kernel) (lv' := [some (.ref 2), some (.int a), some (.int (nI y)), some (.int (nI i))]) (st' := [.int (I 2 0), .int (nI i)]) (I' := I) (J' := J) rfl ?_
    refine EV_icmp_ge (off := 18) (tgt := 37) C (by decide +kernel) (by decide) (fun h1 => ?_) (fun h1 => ?_)
    · skip
      exact kk
    · skip
      exact absurd h1 (by simp (disch := omega) only [Int32.lt_iff_toInt_lt, Int32.le_iff_toInt_le, Int32.toInt_zero, nI_toInt, tq_m1, hw]; omega)
  | succ n ih =>
    intro i a hi kk
    rw [show i + (n + 1) = (i + 1) + n by omega] at kk
    refine EV_blk (own := 3) C rfl [(.iload_n 3, 0, 0, 0, 0), (.aload_n 0, 0, 0, 0, 0), (.getfield 18, 3, 0, 95, 0)] (pc' := 19) (by decide +kernel) (lv' := [some (.ref 2), some (.int a), some (.int (nI y)), some (.int (nI i))]) (st' := [.int (I 2 0), .int (nI i)]) (I' := I) (J' := J) rfl ?_
    refine EV_icmp_ge (off := 18) (tgt := 37) C (by decide +kernel) (by decide) (fun h1 => ?_) (fun h1 => ?_)
    · skip
      exact absurd h1 (by simp (disch := omega) only [Int32.lt_iff_toInt_lt, Int32.le_iff_toInt_le, Int32.toInt_zero, nI_toInt, tq_m1, hw]; omega)
    · skip
      refine EV_blk (own := 3) C rfl [(.iload_n 1, 0, 0, 0, 0), (.aload_n 0, 0, 0, 0, 0), (.iload_n 3, 0, 0, 0, 0), (.iload_n 2, 0, 0, 0, 0)] (pc' := 26) (by decide +kernel) (lv' := [some (.ref 2), some (.int a), some (.int (nI y)), some (.int (nI i))]) (st' := [.int (nI y), .int (nI i), .ref 2, .int a]) (I' := I) (J' := J) rfl ?_
      refine EV_cV (own := 3) (idx := 38) (μ' := mX3_pathAt) (b := 2) (cb := 3) (av := [.int (nI i), .int (nI y)]) (rest := [.int a]) C hR rfl (Or.inl ⟨441, by decide⟩) kX3_pathAt sX3_pathAt (c_X3_pathAt g rest I J i y (by omega) (by omega)) rfl rfl (by decide +kernel) rfl (by decide) (Nat.le_of_ble_eq_true rfl) rfl ⟨Nat.zero_le _, Nat.zero_le _⟩ ?_
      refine EV_blk (own := 3) C rfl [(.iadd, 0, 0, 0, 0), (.istore_n 1, 0, 0, 0, 0), (.iinc 3 1, 0, 0, 0, (nI 1)), (.goto (-20), 0, 0, 0, 0)] (pc' := 14) (by decide +kernel) (lv' := [some (.ref 2), some (.int (a + (I 4 (y * 10 + i)))), some (.int (nI y)), some (.int ((nI i) + (nI 1)))]) (st' := []) (I' := I) (J' := J) rfl ?_
      rw [show ((nI i) + (nI 1)) = (nI (i + 1)) from by simp (disch := omega) only [nI_add, tq_mul] <;> exact congrArg nI (by omega)]
      rw [tq_its, show (f_countPaths1 I w h y) i a = (a + (I 4 (y * 10 + i))) from by simp only [f_countPaths1, if_neg h1]] at kk
      exact ih (i + 1) (a + (I 4 (y * 10 + i))) (by omega) kk
def f_countPaths2 (I : tq_I) (w h : Nat) (i : Nat) (a : Int32) : Int32 := (tq_it (f_countPaths1 I w h i) w 0 a)
set_option maxRecDepth 20000 in
theorem lp_countPaths2 {g : tq_G} {rest : List tq_S} {x0 : tq_X} (C : tq_C g mX3_countPaths x0) (hR : tq_ht x0 2 0 0) (I : tq_I) (J : Int64) (w h : Nat) (hw : I 2 0 = nI w) (hh : I 2 1 = nI h) (hw10 : w ≤ 10) (hh10 : h ≤ 10) : ∀ (n i : Nat) (a : Int32), i + n = h → EV g mX3_countPaths x0 0 0 43 [some (.ref 2), some (.int (tq_it (f_countPaths2 I w h) n i a)), some (.int (nI (i + n))), none] [] (tq_SC ++ rest) tq_RR I J → EV g mX3_countPaths x0 0 0 4 [some (.ref 2), some (.int a), some (.int (nI i)), none] [] (tq_SC ++ rest) tq_RR I J := by
  intro n
  induction n with
  | zero =>
    intro i a hi kk
    rw [Nat.add_zero] at kk
    refine EV_blk (own := 3) C rfl [(.iload_n 2, 0, 0, 0, 0), (.aload_n 0, 0, 0, 0, 0), (.getfield 22, 3, 1, 99, 0)] (pc' := 9) (by decide +kernel) (lv' := [some (.ref 2), some (.int a), some (.int (nI i)), none]) (st' := [.int (I 2 1), .int (nI i)]) (I' := I) (J' := J) rfl ?_
    refine EV_icmp_ge (off := 34) (tgt := 43) C (by decide +kernel) (by decide) (fun h1 => ?_) (fun h1 => ?_)
    · skip
      exact kk
    · skip
      exact absurd h1 (by simp (disch := omega) only [Int32.lt_iff_toInt_lt, Int32.le_iff_toInt_le, Int32.toInt_zero, nI_toInt, tq_m1, hh]; omega)
  | succ n ih =>
    intro i a hi kk
    rw [show i + (n + 1) = (i + 1) + n by omega] at kk
    refine EV_blk (own := 3) C rfl [(.iload_n 2, 0, 0, 0, 0), (.aload_n 0, 0, 0, 0, 0), (.getfield 22, 3, 1, 99, 0)] (pc' := 9) (by decide +kernel) (lv' := [some (.ref 2), some (.int a), some (.int (nI i)), none]) (st' := [.int (I 2 1), .int (nI i)]) (I' := I) (J' := J) rfl ?_
    refine EV_icmp_ge (off := 34) (tgt := 43) C (by decide +kernel) (by decide) (fun h1 => ?_) (fun h1 => ?_)
    · skip
      exact absurd h1 (by simp (disch := omega) only [Int32.lt_iff_toInt_lt, Int32.le_iff_toInt_le, Int32.toInt_zero, nI_toInt, tq_m1, hh]; omega)
    · skip
      refine EV_blk (own := 3) C rfl [(.iconst 0, 0, 0, 0, (nI 0)), (.istore_n 3, 0, 0, 0, 0)] (pc' := 14) (by decide +kernel) (lv' := [some (.ref 2), some (.int a), some (.int (nI i)), some (.int (nI 0))]) (st' := []) (I' := I) (J' := J) rfl ?_
      refine lp_countPaths1 C hR I J w h i hw hw10 (by omega) w 0 a (by omega) ?_
      refine EV_blk (own := 3) C rfl [(.iinc 2 1, 0, 0, 0, (nI 1)), (.goto (-36), 0, 0, 0, 0)] (pc' := 4) (by decide +kernel) (lv' := [some (.ref 2), some (.int (tq_it (f_countPaths1 I w h i) w 0 a)), some (.int ((nI i) + (nI 1))), some (.int (nI ((0 + w))))]) (st' := []) (I' := I) (J' := J) rfl ?_
      refine EV_fg (lv' := [some (.ref 2), some (.int (tq_it (f_countPaths1 I w h i) w 0 a)), some (.int ((nI i) + (nI 1))), none]) ⟨rfl, rfl, rfl, trivial⟩ ?_
      rw [show ((nI i) + (nI 1)) = (nI (i + 1)) from by simp (disch := omega) only [nI_add, tq_mul] <;> exact congrArg nI (by omega)]
      rw [tq_its, show (f_countPaths2 I w h) i a = (tq_it (f_countPaths1 I w h i) w 0 a) from by simp only [f_countPaths2, if_neg h1]] at kk
      exact ih (i + 1) (tq_it (f_countPaths1 I w h i) w 0 a) (by omega) kk
def r_X3_countPaths (I : tq_I) (w h : Nat) : Int32 := (tq_it (f_countPaths2 I w h) h 0 (nI 0))
set_option maxRecDepth 20000 in
theorem c_X3_countPaths (g : tq_G) (rest : List tq_S) (I : tq_I) (J : Int64) (w h : Nat) (hw : I 2 0 = nI w) (hh : I 2 1 = nI h) (hw10 : w ≤ 10) (hh10 : h ≤ 10) : CT g mX3_countPaths 2 0 0 [.ref 2] (tq_SC ++ rest) tq_RR I J (tq_ret (tq_SC ++ rest) tq_RR (some (.int (r_X3_countPaths I w h))) I J) := by
  refine CT.ret kX3_countPaths (Nat.le_of_ble_eq_true rfl) (fun x0 C hR hZ => ?_)
  refine EV_en (lv' := [some (.ref 2), none, none, none]) 3 rfl ?_
  refine EV_blk (own := 3) C rfl [(.iconst 0, 0, 0, 0, (nI 0)), (.istore_n 1, 0, 0, 0, 0), (.iconst 0, 0, 0, 0, (nI 0)), (.istore_n 2, 0, 0, 0, 0)] (pc' := 4) (by decide +kernel) (lv' := [some (.ref 2), some (.int (nI 0)), some (.int (nI 0)), none]) (st' := []) (I' := I) (J' := J) rfl ?_
  refine lp_countPaths2 C hR I J w h hw hh hw10 hh10 h 0 (nI 0) (by omega) ?_
  refine EV_blk (own := 3) C rfl [(.iload_n 1, 0, 0, 0, 0)] (pc' := 44) (by decide +kernel) (lv' := [some (.ref 2), some (.int (tq_it (f_countPaths2 I w h) h 0 (nI 0))), some (.int (nI ((0 + h)))), none]) (st' := [.int (tq_it (f_countPaths2 I w h) h 0 (nI 0))]) (I' := I) (J' := J) rfl ?_
  exact EV_iret C hZ rfl (by decide +kernel) (Nat.le_refl _) (Nat.le_refl _) ⟨tq_some (by simp only [r_X3_countPaths]), rfl, rfl, rfl, rfl⟩
set_option maxRecDepth 20000 in
theorem cI_X11_cellIndex (g : tq_G) (rest : List tq_S) (I : tq_I) (J : Int64) (x y : Int32)  : CT g mX11_cellIndex 0 0 0 [.int x, .int y] (tq_SC ++ rest) tq_RR I J (tq_ret (tq_SC ++ rest) tq_RR (some (.int ((y * (nI 10)) + x))) I J) := by
  refine CT.ret kX11_cellIndex (Nat.le_of_ble_eq_true rfl) (fun x0 C hR hZ => ?_)
  refine EV_en (lv' := [some (.int x), some (.int y)]) 0 rfl ?_
  refine EV_blk (own := 11) C rfl [(.iload_n 1, 0, 0, 0, 0), (.bipush 10, 0, 0, 0, (nI 10)), (.imul, 0, 0, 0, 0), (.iload_n 0, 0, 0, 0, 0), (.iadd, 0, 0, 0, 0)] (pc' := 6) (by decide +kernel) (lv' := [some (.int x), some (.int y)]) (st' := [.int ((y * (nI 10)) + x)]) (I' := I) (J' := J) rfl ?_
  exact EV_iret C hZ rfl (by decide +kernel) (Nat.le_refl _) (Nat.le_refl _) ⟨rfl, rfl, rfl, rfl, rfl⟩
def r_X3_leadsTo (I : tq_I) (x y b : Int32) : Int32 := (if (tq_b (tq_cell I x y)) = 0 then b else (if (I 4 (tq_N y * 10 + tq_N x)) = (nI 1) then (nI 1) else (nI 0)))
set_option maxRecDepth 20000 in
theorem c_X3_leadsTo (g : tq_G) (rest : List tq_S) (I : tq_I) (J : Int64) (x y b : Int32) (hw10 : (I 2 0).toInt ≤ 10) (hh10 : (I 2 1).toInt ≤ 10) (hb : b = 0 ∨ b = 1) : CT g mX3_leadsTo 1 0 0 [.ref 2, .int x, .int y, .int b] (tq_SC ++ rest) tq_RR I J (tq_ret (tq_SC ++ rest) tq_RR (some (.int (r_X3_leadsTo I x y b))) I J) := by
  refine CT.ret kX3_leadsTo (Nat.le_of_ble_eq_true rfl) (fun x0 C hR hZ => ?_)
  refine EV_en (lv' := [some (.ref 2), some (.int x), some (.int y), some (.int b)]) 0 rfl ?_
  refine EV_blk (own := 3) C rfl [(.aload_n 0, 0, 0, 0, 0), (.iload_n 1, 0, 0, 0, 0), (.iload_n 2, 0, 0, 0, 0)] (pc' := 3) (by decide +kernel) (lv' := [some (.ref 2), some (.int x), some (.int y), some (.int b)]) (st' := [.int y, .int x, .ref 2]) (I' := I) (J' := J) rfl ?_
  refine EV_cV (own := 3) (idx := 58) (μ' := mX3_isCell) (b := 2) (cb := 3) (av := [.int x, .int y]) (rest := []) C hR rfl (Or.inl ⟨570, by decide⟩) kX3_isCell sX3_isCell (c_X3_isCell g rest I J x y ) rfl rfl (by decide +kernel) rfl (by decide) (Nat.le_of_ble_eq_true rfl) rfl ⟨Nat.zero_le _, Nat.zero_le _⟩ ?_
  refine EV_if_eq (off := 25) (tgt := 31) C (by decide +kernel) (by decide) (fun h1 => ?_) (fun h1 => ?_)
  · skip
    refine EV_blk (own := 3) C rfl [(.iload_n 3, 0, 0, 0, 0)] (pc' := 32) (by decide +kernel) (lv' := [some (.ref 2), some (.int x), some (.int y), some (.int b)]) (st' := [.int b]) (I' := I) (J' := J) rfl ?_
    exact EV_zret C hZ rfl (by first | decide | exact hb) (by decide +kernel) (Nat.le_refl _) (Nat.le_refl _) ⟨tq_some (by simp only [r_X3_leadsTo, if_pos h1]), rfl, rfl, rfl, rfl⟩
  · skip
    have h0 := tq_b1.mp (tq_b01.resolve_left h1)
    refine EV_blk (own := 3) C rfl [(.aload_n 0, 0, 0, 0, 0), (.getfield 15, 3, 3, 106, 0), (.iload_n 1, 0, 0, 0, 0), (.iload_n 2, 0, 0, 0, 0)] (pc' := 15) (by decide +kernel) (lv' := [some (.ref 2), some (.int x), some (.int y), some (.int b)]) (st' := [.int y, .int x, .ref 4]) (I' := I) (J' := J) rfl ?_
    refine EV_cS (own := 3) (idx := 35) (μ' := mX11_cellIndex) (av := [.int x, .int y]) (rest := [.ref 4]) C hR rfl (Or.inr ⟨445, by decide⟩) kX11_cellIndex sX11_cellIndex (cI_X11_cellIndex g rest I J x y ) (by decide +kernel) rfl (by decide) (Nat.le_of_ble_eq_true rfl) rfl ⟨Nat.zero_le _, Nat.zero_le _⟩ ?_
    refine EV_iald (j := (tq_N y * 10 + tq_N x)) C (by decide +kernel) rfl (tq_ix 10 h0.1 (by omega) h0.2.2.1 (by omega) (by decide)) (by unfold tq_N; omega) ?_
    refine EV_blk (own := 3) C rfl [(.iconst 1, 0, 0, 0, (nI 1))] (pc' := 20) (by decide +kernel) (lv' := [some (.ref 2), some (.int x), some (.int y), some (.int b)]) (st' := [.int (nI 1), .int (I 4 (tq_N y * 10 + tq_N x))]) (I' := I) (J' := J) rfl ?_
    refine EV_icmp_ne (off := 7) (tgt := 27) C (by decide +kernel) (by decide) (fun h2 => ?_) (fun h2 => ?_)
    · skip
      refine EV_blk (own := 3) C rfl [(.iconst 0, 0, 0, 0, (nI 0)), (.goto 4, 0, 0, 0, 0)] (pc' := 32) (by decide +kernel) (lv' := [some (.ref 2), some (.int x), some (.int y), some (.int b)]) (st' := [.int (nI 0)]) (I' := I) (J' := J) rfl ?_
      exact EV_zret C hZ rfl (by first | decide | exact hb) (by decide +kernel) (Nat.le_refl _) (Nat.le_refl _) ⟨tq_some (by simp only [r_X3_leadsTo, if_neg h1, if_neg h2]), rfl, rfl, rfl, rfl⟩
    · skip
      refine EV_blk (own := 3) C rfl [(.iconst 1, 0, 0, 0, (nI 1)), (.goto 8, 0, 0, 0, 0)] (pc' := 32) (by decide +kernel) (lv' := [some (.ref 2), some (.int x), some (.int y), some (.int b)]) (st' := [.int (nI 1)]) (I' := I) (J' := J) rfl ?_
      exact EV_zret C hZ rfl (by first | decide | exact hb) (by decide +kernel) (Nat.le_refl _) (Nat.le_refl _) ⟨tq_some (by simp only [r_X3_leadsTo, if_neg h1, if_pos h2]), rfl, rfl, rfl, rfl⟩
def f_pm1 (I : tq_I) (x y : Nat) (b : Int32) (i : Nat) (a : Int32) : Int32 := (if (r_X3_leadsTo I ((nI x) + (tq_aside.getD i 0)) ((nI y) + (tq_down.getD i 0)) b) = 0 then a else (a ||| ((nI 1) <<< ((nI i) &&& 31))))
set_option maxRecDepth 20000 in
theorem lp_pm1 {g : tq_G} {rest : List tq_S} {x0 : tq_X} (C : tq_C g mX3_pathMaskAt x0) (hR : tq_ht x0 2 0 0) (I : tq_I) (J : Int64) (x y : Nat) (b : Int32) (hw10 : (I 2 0).toInt ≤ 10) (hh10 : (I 2 1).toInt ≤ 10) (hb : b = 0 ∨ b = 1) : ∀ (n i : Nat) (a : Int32), i + n = 8 → EV g mX3_pathMaskAt x0 0 0 52 [some (.ref 2), some (.int (nI x)), some (.int (nI y)), some (.int b), some (.int (tq_it (f_pm1 I x y b) n i a)), some (.int (nI (i + n))), none, none] [] (tq_SC ++ rest) tq_RR I J → EV g mX3_pathMaskAt x0 0 0 6 [some (.ref 2), some (.int (nI x)), some (.int (nI y)), some (.int b), some (.int a), some (.int (nI i)), none, none] [] (tq_SC ++ rest) tq_RR I J := by
  intro n
  induction n with
  | zero =>
    intro i a hi kk
    rw [Nat.add_zero] at kk
    refine EV_blk (own := 3) C rfl [(.iload 5, 0, 0, 0, 0), (.bipush 8, 0, 0, 0, (nI 8))] (pc' := 10) (by decide +kernel) (lv' := [some (.ref 2), some (.int (nI x)), some (.int (nI y)), some (.int b), some (.int a), some (.int (nI i)), none, none]) (st' := [.int (nI 8), .int (nI i)]) (I' := I) (J' := J) rfl ?_
    refine EV_icmp_ge (off := 42) (tgt := 52) C (by decide +kernel) (by decide) (fun h1 => ?_) (fun h1 => ?_)
    · skip
      exact kk
    · skip
      exact absurd h1 (by simp (disch := omega) only [Int32.lt_iff_toInt_lt, Int32.le_iff_toInt_le, Int32.toInt_zero, nI_toInt, tq_m1]; omega)
  | succ n ih =>
    intro i a hi kk
    rw [show i + (n + 1) = (i + 1) + n by omega] at kk
    refine EV_blk (own := 3) C rfl [(.iload 5, 0, 0, 0, 0), (.bipush 8, 0, 0, 0, (nI 8))] (pc' := 10) (by decide +kernel) (lv' := [some (.ref 2), some (.int (nI x)), some (.int (nI y)), some (.int b), some (.int a), some (.int (nI i)), none, none]) (st' := [.int (nI 8), .int (nI i)]) (I' := I) (J' := J) rfl ?_
    refine EV_icmp_ge (off := 42) (tgt := 52) C (by decide +kernel) (by decide) (fun h1 => ?_) (fun h1 => ?_)
    · skip
      exact absurd h1 (by simp (disch := omega) only [Int32.lt_iff_toInt_lt, Int32.le_iff_toInt_le, Int32.toInt_zero, nI_toInt, tq_m1]; omega)
    · skip
      refine EV_blk (own := 3) C rfl [(.aload_n 0, 0, 0, 0, 0), (.iload_n 1, 0, 0, 0, 0)] (pc' := 15) (by decide +kernel) (lv' := [some (.ref 2), some (.int (nI x)), some (.int (nI y)), some (.int b), some (.int a), some (.int (nI i)), none, none]) (st' := [.int (nI x), .ref 2]) (I' := I) (J' := J) rfl ?_
      refine EV_gets (own := 3) (idx := 41) (o := 1) (pl := 562) C rfl (by decide) (by decide) (by decide +kernel) ?_
      refine EV_blk (own := 3) C rfl [(.iload 5, 0, 0, 0, 0)] (pc' := 20) (by decide +kernel) (lv' := [some (.ref 2), some (.int (nI x)), some (.int (nI y)), some (.int b), some (.int a), some (.int (nI i)), none, none]) (st' := [.int (nI i), .ref 1001, .int (nI x), .ref 2]) (I' := I) (J' := J) rfl ?_
      refine EV_oald (o := 1) (j := i) C (by decide +kernel) (by decide) (nI_toInt (by omega)) (show i < 8 by omega) ?_
      refine EV_blk (own := 3) C rfl [(.iadd, 0, 0, 0, 0), (.iload_n 2, 0, 0, 0, 0)] (pc' := 23) (by decide +kernel) (lv' := [some (.ref 2), some (.int (nI x)), some (.int (nI y)), some (.int b), some (.int a), some (.int (nI i)), none, none]) (st' := [.int (nI y), .int ((nI x) + (tq_aside.getD i 0)), .ref 2]) (I' := I) (J' := J) rfl ?_
      refine EV_gets (own := 3) (idx := 44) (o := 2) (pl := 564) C rfl (by decide) (by decide) (by decide +kernel) ?_
      refine EV_blk (own := 3) C rfl [(.iload 5, 0, 0, 0, 0)] (pc' := 28) (by decide +kernel) (lv' := [some (.ref 2), some (.int (nI x)), some (.int (nI y)), some (.int b), some (.int a), some (.int (nI i)), none, none]) (st' := [.int (nI i), .ref 1002, .int (nI y), .int ((nI x) + (tq_aside.getD i 0)), .ref 2]) (I' := I) (J' := J) rfl ?_
      refine EV_oald (o := 2) (j := i) C (by decide +kernel) (by decide) (nI_toInt (by omega)) (show i < 8 by omega) ?_
      refine EV_blk (own := 3) C rfl [(.iadd, 0, 0, 0, 0), (.iload_n 3, 0, 0, 0, 0)] (pc' := 31) (by decide +kernel) (lv' := [some (.ref 2), some (.int (nI x)), some (.int (nI y)), some (.int b), some (.int a), some (.int (nI i)), none, none]) (st' := [.int b, .int ((nI y) + (tq_down.getD i 0)), .int ((nI x) + (tq_aside.getD i 0)), .ref 2]) (I' := I) (J' := J) rfl ?_
      refine EV_cV (own := 3) (idx := 47) (μ' := mX3_leadsTo) (b := 2) (cb := 3) (av := [.int ((nI x) + (tq_aside.getD i 0)), .int ((nI y) + (tq_down.getD i 0)), .int b]) (rest := []) C hR rfl (Or.inl ⟨566, by decide⟩) kX3_leadsTo sX3_leadsTo (c_X3_leadsTo g rest I J ((nI x) + (tq_aside.getD i 0)) ((nI y) + (tq_down.getD i 0)) b hw10 hh10 hb) rfl rfl (by decide +kernel) rfl (by decide) (Nat.le_of_ble_eq_true rfl) rfl ⟨Nat.zero_le _, Nat.zero_le _⟩ ?_
      refine EV_if_eq (off := 12) (tgt := 46) C (by decide +kernel) (by decide) (fun h2 => ?_) (fun h2 => ?_)
      · skip
        refine EV_blk (own := 3) C rfl [(.iinc 5 1, 0, 0, 0, (nI 1)), (.goto (-43), 0, 0, 0, 0)] (pc' := 6) (by decide +kernel) (lv' := [some (.ref 2), some (.int (nI x)), some (.int (nI y)), some (.int b), some (.int a), some (.int ((nI i) + (nI 1))), none, none]) (st' := []) (I' := I) (J' := J) rfl ?_
        rw [show ((nI i) + (nI 1)) = (nI (i + 1)) from by simp (disch := omega) only [nI_add, tq_mul] <;> exact congrArg nI (by omega)]
        rw [tq_its, show (f_pm1 I x y b) i a = a from by simp only [f_pm1, if_neg h1, if_pos h2]] at kk
        exact ih (i + 1) a (by omega) kk
      · skip
        refine EV_blk (own := 3) C rfl [(.iload 4, 0, 0, 0, 0), (.iconst 1, 0, 0, 0, (nI 1)), (.iload 5, 0, 0, 0, 0), (.ishl, 0, 0, 0, 0), (.ior, 0, 0, 0, 0), (.istore 4, 0, 0, 0, 0), (.iinc 5 1, 0, 0, 0, (nI 1)), (.goto (-43), 0, 0, 0, 0)] (pc' := 6) (by decide +kernel) (lv' := [some (.ref 2), some (.int (nI x)), some (.int (nI y)), some (.int b), some (.int (a ||| ((nI 1) <<< ((nI i) &&& 31)))), some (.int ((nI i) + (nI 1))), none, none]) (st' := []) (I' := I) (J' := J) rfl ?_
        rw [show ((nI i) + (nI 1)) = (nI (i + 1)) from by simp (disch := omega) only [nI_add, tq_mul] <;> exact congrArg nI (by omega)]
        rw [tq_its, show (f_pm1 I x y b) i a = (a ||| ((nI 1) <<< ((nI i) &&& 31))) from by simp only [f_pm1, if_neg h1, if_neg h2]] at kk
        exact ih (i + 1) (a ||| ((nI 1) <<< ((nI i) &&& 31))) (by omega) kk
def f_pm2 (I : tq_I) (x y : Nat) (b near : Int32) (i : Nat) (a : Int32) : Int32 := (if (near &&& (((nI 1) <<< (((nI (1 + 2 * i)) - (nI 1)) &&& 31)) ||| ((nI 1) <<< ((tq_rem ((nI (1 + 2 * i)) + (nI 1)) (nI 8)) &&& 31)))) = (((nI 1) <<< (((nI (1 + 2 * i)) - (nI 1)) &&& 31)) ||| ((nI 1) <<< ((tq_rem ((nI (1 + 2 * i)) + (nI 1)) (nI 8)) &&& 31))) then (a ||| (near &&& ((nI 1) <<< ((nI (1 + 2 * i)) &&& 31)))) else a)
set_option maxRecDepth 20000 in
theorem lp_pm2 {g : tq_G} {rest : List tq_S} {x0 : tq_X} (C : tq_C g mX3_pathMaskAt x0) (hR : tq_ht x0 2 0 0) (I : tq_I) (J : Int64) (x y : Nat) (b near : Int32)  : ∀ (n i : Nat) (a : Int32), i + n = 4 → EV g mX3_pathMaskAt x0 0 0 115 [some (.ref 2), some (.int (nI x)), some (.int (nI y)), some (.int b), some (.int near), some (.int (tq_it (f_pm2 I x y b near) n i a)), some (.int (nI (1 + 2 * (i + n)))), none] [] (tq_SC ++ rest) tq_RR I J → EV g mX3_pathMaskAt x0 0 0 62 [some (.ref 2), some (.int (nI x)), some (.int (nI y)), some (.int b), some (.int near), some (.int a), some (.int (nI (1 + 2 * i))), none] [] (tq_SC ++ rest) tq_RR I J := by
  intro n
  induction n with
  | zero =>
    intro i a hi kk
    rw [Nat.add_zero] at kk
    refine EV_blk (own := 3) C rfl [(.iload 6, 0, 0, 0, 0), (.bipush 8, 0, 0, 0, (nI 8))] (pc' := 66) (by decide +kernel) (lv' := [some (.ref 2), some (.int (nI x)), some (.int (nI y)), some (.int b), some (.int near), some (.int a), some (.int (nI (1 + 2 * i))), none]) (st' := [.int (nI 8), .int (nI (1 + 2 * i))]) (I' := I) (J' := J) rfl ?_
    refine EV_icmp_ge (off := 49) (tgt := 115) C (by decide +kernel) (by decide) (fun h1 => ?_) (fun h1 => ?_)
    · skip
      exact kk
    · skip
      exact absurd h1 (by simp (disch := omega) only [Int32.lt_iff_toInt_lt, Int32.le_iff_toInt_le, Int32.toInt_zero, nI_toInt, tq_m1]; omega)
  | succ n ih =>
    intro i a hi kk
    rw [show i + (n + 1) = (i + 1) + n by omega] at kk
    refine EV_blk (own := 3) C rfl [(.iload 6, 0, 0, 0, 0), (.bipush 8, 0, 0, 0, (nI 8))] (pc' := 66) (by decide +kernel) (lv' := [some (.ref 2), some (.int (nI x)), some (.int (nI y)), some (.int b), some (.int near), some (.int a), some (.int (nI (1 + 2 * i))), none]) (st' := [.int (nI 8), .int (nI (1 + 2 * i))]) (I' := I) (J' := J) rfl ?_
    refine EV_icmp_ge (off := 49) (tgt := 115) C (by decide +kernel) (by decide) (fun h1 => ?_) (fun h1 => ?_)
    · skip
      exact absurd h1 (by simp (disch := omega) only [Int32.lt_iff_toInt_lt, Int32.le_iff_toInt_le, Int32.toInt_zero, nI_toInt, tq_m1]; omega)
    · skip
      refine EV_blk (own := 3) C rfl [(.iconst 1, 0, 0, 0, (nI 1)), (.iload 6, 0, 0, 0, 0), (.iconst 1, 0, 0, 0, (nI 1)), (.isub, 0, 0, 0, 0), (.ishl, 0, 0, 0, 0), (.iconst 1, 0, 0, 0, (nI 1)), (.iload 6, 0, 0, 0, 0), (.iconst 1, 0, 0, 0, (nI 1)), (.iadd, 0, 0, 0, 0), (.bipush 8, 0, 0, 0, (nI 8))] (pc' := 82) (by decide +kernel) (lv' := [some (.ref 2), some (.int (nI x)), some (.int (nI y)), some (.int b), some (.int near), some (.int a), some (.int (nI (1 + 2 * i))), none]) (st' := [.int (nI 8), .int ((nI (1 + 2 * i)) + (nI 1)), .int (nI 1), .int ((nI 1) <<< (((nI (1 + 2 * i)) - (nI 1)) &&& 31))]) (I' := I) (J' := J) rfl ?_
      refine EV_irem C (by decide +kernel) (by decide) ?_
      refine EV_blk (own := 3) C rfl [(.ishl, 0, 0, 0, 0), (.ior, 0, 0, 0, 0), (.istore 7, 0, 0, 0, 0), (.iload 4, 0, 0, 0, 0), (.iload 7, 0, 0, 0, 0), (.iand, 0, 0, 0, 0), (.iload 7, 0, 0, 0, 0)] (pc' := 94) (by decide +kernel) (lv' := [some (.ref 2), some (.int (nI x)), some (.int (nI y)), some (.int b), some (.int near), some (.int a), some (.int (nI (1 + 2 * i))), some (.int (((nI 1) <<< (((nI (1 + 2 * i)) - (nI 1)) &&& 31)) ||| ((nI 1) <<< ((tq_rem ((nI (1 + 2 * i)) + (nI 1)) (nI 8)) &&& 31))))]) (st' := [.int (((nI 1) <<< (((nI (1 + 2 * i)) - (nI 1)) &&& 31)) ||| ((nI 1) <<< ((tq_rem ((nI (1 + 2 * i)) + (nI 1)) (nI 8)) &&& 31))), .int (near &&& (((nI 1) <<< (((nI (1 + 2 * i)) - (nI 1)) &&& 31)) ||| ((nI 1) <<< ((tq_rem ((nI (1 + 2 * i)) + (nI 1)) (nI 8)) &&& 31))))]) (I' := I) (J' := J) rfl ?_
      refine EV_icmp_ne (off := 15) (tgt := 109) C (by decide +kernel) (by decide) (fun h2 => ?_) (fun h2 => ?_)
      · skip
        refine EV_blk (own := 3) C rfl [(.iinc 6 2, 0, 0, 0, (nI 2)), (.goto (-50), 0, 0, 0, 0)] (pc' := 62) (by decide +kernel) (lv' := [some (.ref 2), some (.int (nI x)), some (.int (nI y)), some (.int b), some (.int near), some (.int a), some (.int ((nI (1 + 2 * i)) + (nI 2))), some (.int (((nI 1) <<< (((nI (1 + 2 * i)) - (nI 1)) &&& 31)) ||| ((nI 1) <<< ((tq_rem ((nI (1 + 2 * i)) + (nI 1)) (nI 8)) &&& 31))))]) (st' := []) (I' := I) (J' := J) rfl ?_
        refine EV_fg (lv' := [some (.ref 2), some (.int (nI x)), some (.int (nI y)), some (.int b), some (.int near), some (.int a), some (.int ((nI (1 + 2 * i)) + (nI 2))), none]) ⟨rfl, rfl, rfl, rfl, rfl, rfl, rfl, trivial⟩ ?_
        rw [show ((nI (1 + 2 * i)) + (nI 2)) = (nI (1 + 2 * (i + 1))) from by simp (disch := omega) only [nI_add, tq_mul] <;> exact congrArg nI (by omega)]
        rw [tq_its, show (f_pm2 I x y b near) i a = a from by simp only [f_pm2, if_neg h1, if_neg h2]] at kk
        exact ih (i + 1) a (by omega) kk
      · skip
        refine EV_blk (own := 3) C rfl [(.iload 5, 0, 0, 0, 0), (.iload 4, 0, 0, 0, 0), (.iconst 1, 0, 0, 0, (nI 1)), (.iload 6, 0, 0, 0, 0), (.ishl, 0, 0, 0, 0), (.iand, 0, 0, 0, 0), (.ior, 0, 0, 0, 0), (.istore 5, 0, 0, 0, 0), (.iinc 6 2, 0, 0, 0, (nI 2)), (.goto (-50), 0, 0, 0, 0)] (pc' := 62) (by decide +kernel) (lv' := [some (.ref 2), some (.int (nI x)), some (.int (nI y)), some (.int b), some (.int near), some (.int (a ||| (near &&& ((nI 1) <<< ((nI (1 + 2 * i)) &&& 31))))), some (.int ((nI (1 + 2 * i)) + (nI 2))), some (.int (((nI 1) <<< (((nI (1 + 2 * i)) - (nI 1)) &&& 31)) ||| ((nI 1) <<< ((tq_rem ((nI (1 + 2 * i)) + (nI 1)) (nI 8)) &&& 31))))]) (st' := []) (I' := I) (J' := J) rfl ?_
        refine EV_fg (lv' := [some (.ref 2), some (.int (nI x)), some (.int (nI y)), some (.int b), some (.int near), some (.int (a ||| (near &&& ((nI 1) <<< ((nI (1 + 2 * i)) &&& 31))))), some (.int ((nI (1 + 2 * i)) + (nI 2))), none]) ⟨rfl, rfl, rfl, rfl, rfl, rfl, rfl, trivial⟩ ?_
        rw [show ((nI (1 + 2 * i)) + (nI 2)) = (nI (1 + 2 * (i + 1))) from by simp (disch := omega) only [nI_add, tq_mul] <;> exact congrArg nI (by omega)]
        rw [tq_its, show (f_pm2 I x y b near) i a = (a ||| (near &&& ((nI 1) <<< ((nI (1 + 2 * i)) &&& 31)))) from by simp only [f_pm2, if_neg h1, if_pos h2]] at kk
        exact ih (i + 1) (a ||| (near &&& ((nI 1) <<< ((nI (1 + 2 * i)) &&& 31)))) (by omega) kk
def r_X3_pathMaskAt (I : tq_I) (x y : Nat) (b : Int32) : Int32 := (tq_it (f_pm2 I x y b (tq_it (f_pm1 I x y b) 8 0 (nI 0))) 4 0 ((tq_it (f_pm1 I x y b) 8 0 (nI 0)) &&& (nI 85)))
set_option maxRecDepth 20000 in
theorem c_X3_pathMaskAt (g : tq_G) (rest : List tq_S) (I : tq_I) (J : Int64) (x y : Nat) (b : Int32) (hw10 : (I 2 0).toInt ≤ 10) (hh10 : (I 2 1).toInt ≤ 10) (hb : b = 0 ∨ b = 1) : CT g mX3_pathMaskAt 2 0 0 [.ref 2, .int (nI x), .int (nI y), .int b] (tq_SC ++ rest) tq_RR I J (tq_ret (tq_SC ++ rest) tq_RR (some (.int (r_X3_pathMaskAt I x y b))) I J) := by
  refine CT.ret kX3_pathMaskAt (Nat.le_of_ble_eq_true rfl) (fun x0 C hR hZ => ?_)
  refine EV_en (lv' := [some (.ref 2), some (.int (nI x)), some (.int (nI y)), some (.int b), none, none, none, none]) 4 rfl ?_
  refine EV_blk (own := 3) C rfl [(.iconst 0, 0, 0, 0, (nI 0)), (.istore 4, 0, 0, 0, 0), (.iconst 0, 0, 0, 0, (nI 0)), (.istore 5, 0, 0, 0, 0)] (pc' := 6) (by decide +kernel) (lv' := [some (.ref 2), some (.int (nI x)), some (.int (nI y)), some (.int b), some (.int (nI 0)), some (.int (nI 0)), none, none]) (st' := []) (I' := I) (J' := J) rfl ?_
  refine lp_pm1 C hR I J x y b hw10 hh10 hb 8 0 (nI 0) (by omega) ?_
  refine EV_blk (own := 3) C rfl [(.iload 4, 0, 0, 0, 0), (.bipush 85, 0, 0, 0, (nI 85)), (.iand, 0, 0, 0, 0), (.istore 5, 0, 0, 0, 0), (.iconst 1, 0, 0, 0, (nI 1)), (.istore 6, 0, 0, 0, 0)] (pc' := 62) (by decide +kernel) (lv' := [some (.ref 2), some (.int (nI x)), some (.int (nI y)), some (.int b), some (.int (tq_it (f_pm1 I x y b) 8 0 (nI 0))), some (.int ((tq_it (f_pm1 I x y b) 8 0 (nI 0)) &&& (nI 85))), some (.int (nI 1)), none]) (st' := []) (I' := I) (J' := J) rfl ?_
  refine lp_pm2 C hR I J x y b (tq_it (f_pm1 I x y b) 8 0 (nI 0))  4 0 ((tq_it (f_pm1 I x y b) 8 0 (nI 0)) &&& (nI 85)) (by omega) ?_
  refine EV_blk (own := 3) C rfl [(.iload 5, 0, 0, 0, 0)] (pc' := 117) (by decide +kernel) (lv' := [some (.ref 2), some (.int (nI x)), some (.int (nI y)), some (.int b), some (.int (tq_it (f_pm1 I x y b) 8 0 (nI 0))), some (.int (tq_it (f_pm2 I x y b (tq_it (f_pm1 I x y b) 8 0 (nI 0))) 4 0 ((tq_it (f_pm1 I x y b) 8 0 (nI 0)) &&& (nI 85)))), some (.int (nI (1 + 2 * (0 + 4)))), none]) (st' := [.int (tq_it (f_pm2 I x y b (tq_it (f_pm1 I x y b) 8 0 (nI 0))) 4 0 ((tq_it (f_pm1 I x y b) 8 0 (nI 0)) &&& (nI 85)))]) (I' := I) (J' := J) rfl ?_
  exact EV_iret C hZ rfl (by decide +kernel) (Nat.le_refl _) (Nat.le_refl _) ⟨tq_some (by simp only [r_X3_pathMaskAt]), rfl, rfl, rfl, rfl⟩
def f_pt1 (I : tq_I) (x y : Nat) (b mask : Int32) (i : Nat) (a : Int32) : Int32 := (if mask ≤ (tq_pm.getD i 0) then a else (a + (nI 1)))
set_option maxRecDepth 20000 in
theorem lp_pt1 {g : tq_G} {rest : List tq_S} {x0 : tq_X} (C : tq_C g mX3_pathTileAt x0) (hR : tq_ht x0 3 0 0) (I : tq_I) (J : Int64) (x y : Nat) (b mask : Int32)  : ∀ (n i : Nat) (a : Int32), i + n = 47 → EV g mX3_pathTileAt x0 0 0 55 [some (.ref 2), some (.int (nI x)), some (.int (nI y)), some (.int b), some (.int mask), some (.int (tq_it (f_pt1 I x y b mask) n i a)), some (.int (nI (i + n)))] [] (tq_SC ++ rest) tq_RR I J → EV g mX3_pathTileAt x0 0 0 26 [some (.ref 2), some (.int (nI x)), some (.int (nI y)), some (.int b), some (.int mask), some (.int a), some (.int (nI i))] [] (tq_SC ++ rest) tq_RR I J := by
  intro n
  induction n with
  | zero =>
    intro i a hi kk
    rw [Nat.add_zero] at kk
    refine EV_blk (own := 3) C rfl [(.iload 6, 0, 0, 0, 0)] (pc' := 28) (by decide +kernel) (lv' := [some (.ref 2), some (.int (nI x)), some (.int (nI y)), some (.int b), some (.int mask), some (.int a), some (.int (nI i))]) (st' := [.int (nI i)]) (I' := I) (J' := J) rfl ?_
    refine EV_gets (own := 3) (idx := 55) (o := 3) (pl := 580) C rfl (by decide) (by decide) (by decide +kernel) ?_
    refine EV_olen (o := 3) (L := 47) C (by decide +kernel) (by decide) rfl ?_
    refine EV_icmp_ge (off := 23) (tgt := 55) C (by decide +kernel) (by decide) (fun h1 => ?_) (fun h1 => ?_)
    · skip
      exact kk
    · skip
      exact absurd h1 (by simp (disch := omega) only [Int32.lt_iff_toInt_lt, Int32.le_iff_toInt_le, Int32.toInt_zero, nI_toInt, tq_m1]; omega)
  | succ n ih =>
    intro i a hi kk
    rw [show i + (n + 1) = (i + 1) + n by omega] at kk
    refine EV_blk (own := 3) C rfl [(.iload 6, 0, 0, 0, 0)] (pc' := 28) (by decide +kernel) (lv' := [some (.ref 2), some (.int (nI x)), some (.int (nI y)), some (.int b), some (.int mask), some (.int a), some (.int (nI i))]) (st' := [.int (nI i)]) (I' := I) (J' := J) rfl ?_
    refine EV_gets (own := 3) (idx := 55) (o := 3) (pl := 580) C rfl (by decide) (by decide) (by decide +kernel) ?_
    refine EV_olen (o := 3) (L := 47) C (by decide +kernel) (by decide) rfl ?_
    refine EV_icmp_ge (off := 23) (tgt := 55) C (by decide +kernel) (by decide) (fun h1 => ?_) (fun h1 => ?_)
    · skip
      exact absurd h1 (by simp (disch := omega) only [Int32.lt_iff_toInt_lt, Int32.le_iff_toInt_le, Int32.toInt_zero, nI_toInt, tq_m1]; omega)
    · skip
      refine EV_gets (own := 3) (idx := 55) (o := 3) (pl := 580) C rfl (by decide) (by decide) (by decide +kernel) ?_
      refine EV_blk (own := 3) C rfl [(.iload 6, 0, 0, 0, 0)] (pc' := 40) (by decide +kernel) (lv' := [some (.ref 2), some (.int (nI x)), some (.int (nI y)), some (.int b), some (.int mask), some (.int a), some (.int (nI i))]) (st' := [.int (nI i), .ref 1003]) (I' := I) (J' := J) rfl ?_
      refine EV_oald (o := 3) (j := i) C (by decide +kernel) (by decide) (nI_toInt (by omega)) (by show i < 47; omega) ?_
      refine EV_blk (own := 3) C rfl [(.iload 4, 0, 0, 0, 0)] (pc' := 43) (by decide +kernel) (lv' := [some (.ref 2), some (.int (nI x)), some (.int (nI y)), some (.int b), some (.int mask), some (.int a), some (.int (nI i))]) (st' := [.int mask, .int (tq_pm.getD i 0)]) (I' := I) (J' := J) rfl ?_
      refine EV_icmp_ge (off := 6) (tgt := 49) C (by decide +kernel) (by decide) (fun h2 => ?_) (fun h2 => ?_)
      · skip
        refine EV_blk (own := 3) C rfl [(.iinc 6 1, 0, 0, 0, (nI 1)), (.goto (-26), 0, 0, 0, 0)] (pc' := 26) (by decide +kernel) (lv' := [some (.ref 2), some (.int (nI x)), some (.int (nI y)), some (.int b), some (.int mask), some (.int a), some (.int ((nI i) + (nI 1)))]) (st' := []) (I' := I) (J' := J) rfl ?_
        rw [show ((nI i) + (nI 1)) = (nI (i + 1)) from by simp (disch := omega) only [nI_add, tq_mul] <;> exact congrArg nI (by omega)]
        rw [tq_its, show (f_pt1 I x y b mask) i a = a from by simp only [f_pt1, if_neg h1, if_pos h2]] at kk
        exact ih (i + 1) a (by omega) kk
      · skip
        refine EV_blk (own := 3) C rfl [(.iinc 5 1, 0, 0, 0, (nI 1)), (.iinc 6 1, 0, 0, 0, (nI 1)), (.goto (-26), 0, 0, 0, 0)] (pc' := 26) (by decide +kernel) (lv' := [some (.ref 2), some (.int (nI x)), some (.int (nI y)), some (.int b), some (.int mask), some (.int (a + (nI 1))), some (.int ((nI i) + (nI 1)))]) (st' := []) (I' := I) (J' := J) rfl ?_
        rw [show ((nI i) + (nI 1)) = (nI (i + 1)) from by simp (disch := omega) only [nI_add, tq_mul] <;> exact congrArg nI (by omega)]
        rw [tq_its, show (f_pt1 I x y b mask) i a = (a + (nI 1)) from by simp only [f_pt1, if_neg h1, if_neg h2]] at kk
        exact ih (i + 1) (a + (nI 1)) (by omega) kk
def r_X3_pathTileAt (I : tq_I) (x y : Nat) (b : Int32) : Int32 := (if (I 4 (y * 10 + x)) = 0 then (-1) else (tq_it (f_pt1 I x y b (r_X3_pathMaskAt I x y b)) 47 0 (nI 0)))
set_option maxRecDepth 20000 in
theorem c_X3_pathTileAt (g : tq_G) (rest : List tq_S) (I : tq_I) (J : Int64) (x y : Nat) (b : Int32) (hx : x ≤ 9) (hy : y ≤ 9) (hw10 : (I 2 0).toInt ≤ 10) (hh10 : (I 2 1).toInt ≤ 10) (hb : b = 0 ∨ b = 1) : CT g mX3_pathTileAt 3 0 0 [.ref 2, .int (nI x), .int (nI y), .int b] (tq_SC ++ rest) tq_RR I J (tq_ret (tq_SC ++ rest) tq_RR (some (.int (r_X3_pathTileAt I x y b))) I J) := by
  refine CT.ret kX3_pathTileAt (Nat.le_of_ble_eq_true rfl) (fun x0 C hR hZ => ?_)
  refine EV_en (lv' := [some (.ref 2), some (.int (nI x)), some (.int (nI y)), some (.int b), none, none, none]) 3 rfl ?_
  refine EV_blk (own := 3) C rfl [(.aload_n 0, 0, 0, 0, 0), (.iload_n 1, 0, 0, 0, 0), (.iload_n 2, 0, 0, 0, 0)] (pc' := 3) (by decide +kernel) (lv' := [some (.ref 2), some (.int (nI x)), some (.int (nI y)), some (.int b), none, none, none]) (st' := [.int (nI y), .int (nI x), .ref 2]) (I' := I) (J' := J) rfl ?_
  refine EV_cV (own := 3) (idx := 38) (μ' := mX3_pathAt) (b := 2) (cb := 3) (av := [.int (nI x), .int (nI y)]) (rest := []) C hR rfl (Or.inl ⟨441, by decide⟩) kX3_pathAt sX3_pathAt (c_X3_pathAt g rest I J x y (by omega) (by omega)) rfl rfl (by decide +kernel) rfl (by decide) (Nat.le_of_ble_eq_true rfl) rfl ⟨Nat.zero_le _, Nat.zero_le _⟩ ?_
  refine EV_if_ne (off := 5) (tgt := 11) C (by decide +kernel) (by decide) (fun h1 => ?_) (fun h1 => ?_)
  · skip
    refine EV_blk (own := 3) C rfl [(.aload_n 0, 0, 0, 0, 0), (.iload_n 1, 0, 0, 0, 0), (.iload_n 2, 0, 0, 0, 0), (.iload_n 3, 0, 0, 0, 0)] (pc' := 15) (by decide +kernel) (lv' := [some (.ref 2), some (.int (nI x)), some (.int (nI y)), some (.int b), none, none, none]) (st' := [.int b, .int (nI y), .int (nI x), .ref 2]) (I' := I) (J' := J) rfl ?_
    refine EV_cV (own := 3) (idx := 51) (μ' := mX3_pathMaskAt) (b := 2) (cb := 3) (av := [.int (nI x), .int (nI y), .int b]) (rest := []) C hR rfl (Or.inl ⟨579, by decide⟩) kX3_pathMaskAt sX3_pathMaskAt (c_X3_pathMaskAt g rest I J x y b hw10 hh10 hb) rfl rfl (by decide +kernel) rfl (by decide) (Nat.le_of_ble_eq_true rfl) rfl ⟨Nat.zero_le _, Nat.zero_le _⟩ ?_
    refine EV_blk (own := 3) C rfl [(.istore 4, 0, 0, 0, 0), (.iconst 0, 0, 0, 0, (nI 0)), (.istore 5, 0, 0, 0, 0), (.iconst 0, 0, 0, 0, (nI 0)), (.istore 6, 0, 0, 0, 0)] (pc' := 26) (by decide +kernel) (lv' := [some (.ref 2), some (.int (nI x)), some (.int (nI y)), some (.int b), some (.int (r_X3_pathMaskAt I x y b)), some (.int (nI 0)), some (.int (nI 0))]) (st' := []) (I' := I) (J' := J) rfl ?_
    refine lp_pt1 C hR I J x y b (r_X3_pathMaskAt I x y b)  47 0 (nI 0) (by omega) ?_
    refine EV_blk (own := 3) C rfl [(.iload 5, 0, 0, 0, 0)] (pc' := 57) (by decide +kernel) (lv' := [some (.ref 2), some (.int (nI x)), some (.int (nI y)), some (.int b), some (.int (r_X3_pathMaskAt I x y b)), some (.int (tq_it (f_pt1 I x y b (r_X3_pathMaskAt I x y b)) 47 0 (nI 0))), some (.int (nI ((0 + 47))))]) (st' := [.int (tq_it (f_pt1 I x y b (r_X3_pathMaskAt I x y b)) 47 0 (nI 0))]) (I' := I) (J' := J) rfl ?_
    exact EV_iret C hZ rfl (by decide +kernel) (Nat.le_refl _) (Nat.le_refl _) ⟨tq_some (by simp only [r_X3_pathTileAt, if_neg h1]), rfl, rfl, rfl, rfl⟩
  · skip
    refine EV_blk (own := 3) C rfl [(.iconst (-1), 0, 0, 0, (-1))] (pc' := 10) (by decide +kernel) (lv' := [some (.ref 2), some (.int (nI x)), some (.int (nI y)), some (.int b), none, none, none]) (st' := [.int (-1)]) (I' := I) (J' := J) rfl ?_
    exact EV_iret C hZ rfl (by decide +kernel) (Nat.le_refl _) (Nat.le_refl _) ⟨tq_some (by simp only [r_X3_pathTileAt, if_pos h1]), rfl, rfl, rfl, rfl⟩
