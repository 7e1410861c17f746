/-! the reference: 117 the model, 118 its row of states -/
theorem tq_ixr {x y : Int32} (b m : Nat) (hx : 0 ≤ x.toInt) (hx2 : x.toInt ≤ 1000) (hy : 0 ≤ y.toInt) (hy2 : y.toInt ≤ 1000) (hm : m ≤ 1000) (hb : b ≤ 10000) : ((nI b + nI m * y) + x).toInt = ((b + m * tq_N y + tq_N x : Nat) : Int) := by
  have e1 := tq_nIN hx
  have e2 := tq_nIN hy
  have h1 : tq_N x ≤ 1000 := by unfold tq_N; omega
  have h2 : tq_N y ≤ 1000 := by unfold tq_N; omega
  generalize tq_N x = a at *
  generalize tq_N y = c at *
  subst e1
  subst e2
  have h3 : m * c ≤ 1000 * 1000 := Nat.mul_le_mul hm h2
  rw [tq_mul, nI_add, nI_add, nI_toInt (by omega)]
theorem tq_ixm {x y : Int32} (m : Nat) (hx : 0 ≤ x.toInt) (hx2 : x.toInt ≤ 1000) (hy : 0 ≤ y.toInt) (hy2 : y.toInt ≤ 1000) (hm : m ≤ 1000) : (nI m * y + x).toInt = ((m * tq_N y + tq_N x : Nat) : Int) := by
  have e1 := tq_nIN hx
  have e2 := tq_nIN hy
  have h1 : tq_N x ≤ 1000 := by unfold tq_N; omega
  have h2 : tq_N y ≤ 1000 := by unfold tq_N; omega
  generalize tq_N x = a at *
  generalize tq_N y = c at *
  subst e1
  subst e2
  have h3 : m * c ≤ 1000 * 1000 := Nat.mul_le_mul hm h2
  rw [tq_mul, nI_add, nI_toInt (by omega)]
abbrev tr_cell (I : tq_I) (x y : Int32) : Prop := ((nI 0).toInt ≤ x.toInt ∧ x.toInt ≤ (I 118 0 - nI 1).toInt) ∧ ((nI 0).toInt ≤ y.toInt ∧ y.toInt ≤ (I 118 1 - nI 1).toInt)
abbrev tr_corner (I : tq_I) (x y : Int32) : Prop := ((nI 0).toInt ≤ x.toInt ∧ x.toInt ≤ (I 118 0).toInt) ∧ ((nI 0).toInt ≤ y.toInt ∧ y.toInt ≤ (I 118 1).toInt)
/-- the map's size, as numbers -/
def tr_wh (I : tq_I) (w h : Nat) : Prop := I 118 0 = nI w ∧ I 118 1 = nI h ∧ 1 ≤ w ∧ w ≤ 10 ∧ 1 ≤ h ∧ h ≤ 10
theorem tr_wh.cell {I : tq_I} {w h : Nat} (k : tr_wh I w h) {x y : Int32} : tr_cell I x y ↔ 0 ≤ x.toInt ∧ x.toInt < (w : Int) ∧ 0 ≤ y.toInt ∧ y.toInt < (h : Int) := by
  obtain ⟨e1, e2, h1, h2, h3, h4⟩ := k
  unfold tr_cell
  rw [e1, e2, tq_sub_nI h1, tq_sub_nI h3, nI_toInt (by omega), nI_toInt (by omega), nI_toInt (by omega)]
  omega
theorem tr_wh.corner {I : tq_I} {w h : Nat} (k : tr_wh I w h) {x y : Int32} : tr_corner I x y ↔ 0 ≤ x.toInt ∧ x.toInt ≤ (w : Int) ∧ 0 ≤ y.toInt ∧ y.toInt ≤ (h : Int) := by
  obtain ⟨e1, e2, h1, h2, h3, h4⟩ := k
  unfold tr_corner
  rw [e1, e2, nI_toInt (by omega), nI_toInt (by omega), nI_toInt (by omega)]
  omega
theorem tr_wh.cong {I K : tq_I} {w h : Nat} (k : tr_wh I w h) (h0 : K 118 0 = I 118 0) (h1 : K 118 1 = I 118 1) : tr_wh K w h := by
  unfold tr_wh
  rw [h0, h1]
  exact k
theorem tr_cell.ix {I : tq_I} {x y : Int32} {w h : Nat} (k : tr_wh I w h) (c : tr_cell I x y) : 0 ≤ x.toInt ∧ 0 ≤ y.toInt ∧ tq_N x < w ∧ tq_N y < h := by
  have := k.cell.mp c
  unfold tq_N
  omega
theorem tr_corner.ix {I : tq_I} {x y : Int32} {w h : Nat} (k : tr_wh I w h) (c : tr_corner I x y) : 0 ≤ x.toInt ∧ 0 ≤ y.toInt ∧ tq_N x ≤ w ∧ tq_N y ≤ h := by
  have := k.corner.mp c
  unfold tq_N
  omega
set_option maxRecDepth 20000 in
theorem c_X12_in (g : tq_G) (I : tq_I) (J : Int64) (v lo hi : Int32)  : CT g mX12_in 0 0 0 [.int v, .int lo, .int hi] (tq_SC ++ tq_SR) tq_RR I J (tq_ret (tq_SC ++ tq_SR) tq_RR (some (.int (tq_b (lo.toInt ≤ v.toInt ∧ v.toInt ≤ hi.toInt)))) I J) := by
  refine CT.ret kX12_in (Nat.le_of_ble_eq_true rfl) (fun x0 C hR hZ => ?_)
  refine EV_en (lv' := [some (.int v), some (.int lo), some (.int hi)]) 0 rfl ?_
  refine EV_blk (own := 12) C rfl [(.iload_n 0, 0, 0, 0, 0), (.iload_n 1, 0, 0, 0, 0)] (pc' := 2) (by decide +kernel) (lv' := [some (.int v), some (.int lo), some (.int hi)]) (st' := [.int lo, .int v]) (I' := I) (J' := J) rfl ?_
  refine EV_icmp_lt (off := 12) (tgt := 14) C (by decide +kernel) (by decide) (fun h1 => ?_) (fun h1 => ?_)
  · skip
    refine EV_blk (own := 12) C rfl [(.iconst 0, 0, 0, 0, (nI 0))] (pc' := 15) (by decide +kernel) (lv' := [some (.int v), some (.int lo), some (.int hi)]) (st' := [.int (nI 0)]) (I' := I) (J' := J) rfl ?_
    exact EV_zret C hZ rfl (by decide) (by decide +kernel) (Nat.le_refl _) (Nat.le_refl _) ⟨tq_r0 (by simp (disch := omega) only [Int32.lt_iff_toInt_lt, Int32.le_iff_toInt_le, Int32.toInt_zero, nI_toInt] at h1 ⊢; omega), rfl, rfl, rfl, rfl⟩
  · skip
    refine EV_blk (own := 12) C rfl [(.iload_n 0, 0, 0, 0, 0), (.iload_n 2, 0, 0, 0, 0)] (pc' := 7) (by decide +kernel) (lv' := [some (.int v), some (.int lo), some (.int hi)]) (st' := [.int hi, .int v]) (I' := I) (J' := J) rfl ?_
    refine EV_icmp_gt (off := 7) (tgt := 14) C (by decide +kernel) (by decide) (fun h2 => ?_) (fun h2 => ?_)
    · skip
      refine EV_blk (own := 12) C rfl [(.iconst 0, 0, 0, 0, (nI 0))] (pc' := 15) (by decide +kernel) (lv' := [some (.int v), some (.int lo), some (.int hi)]) (st' := [.int (nI 0)]) (I' := I) (J' := J) rfl ?_
      exact EV_zret C hZ rfl (by decide) (by decide +kernel) (Nat.le_refl _) (Nat.le_refl _) ⟨tq_r0 (by simp (disch := omega) only [Int32.lt_iff_toInt_lt, Int32.le_iff_toInt_le, Int32.toInt_zero, nI_toInt] at h1 h2 ⊢; omega), rfl, rfl, rfl, rfl⟩
    · skip
      refine EV_blk (own := 12) C rfl [(.iconst 1, 0, 0, 0, (nI 1)), (.goto 4, 0, 0, 0, 0)] (pc' := 15) (by decide +kernel) (lv' := [some (.int v), some (.int lo), some (.int hi)]) (st' := [.int (nI 1)]) (I' := I) (J' := J) rfl ?_
      exact EV_zret C hZ rfl (by decide) (by decide +kernel) (Nat.le_refl _) (Nat.le_refl _) ⟨tq_r1 (by simp (disch := omega) only [Int32.lt_iff_toInt_lt, Int32.le_iff_toInt_le, Int32.toInt_zero, nI_toInt] at h1 h2 ⊢; omega), rfl, rfl, rfl, rfl⟩
set_option maxRecDepth 20000 in
theorem c_X12_isTerrain (g : tq_G) (I : tq_I) (J : Int64) (t : Int32)  : CT g mX12_isTerrain 1 0 0 [.int t] (tq_SC ++ tq_SR) tq_RR I J (tq_ret (tq_SC ++ tq_SR) tq_RR (some (.int (tq_b ((nI 0).toInt ≤ t.toInt ∧ t.toInt ≤ (nI 5).toInt)))) I J) := by
  refine CT.ret kX12_isTerrain (Nat.le_of_ble_eq_true rfl) (fun x0 C hR hZ => ?_)
  refine EV_en (lv' := [some (.int t)]) 0 rfl ?_
  refine EV_blk (own := 12) C rfl [(.iload_n 0, 0, 0, 0, 0), (.iconst 0, 0, 0, 0, (nI 0)), (.iconst 5, 0, 0, 0, (nI 5))] (pc' := 3) (by decide +kernel) (lv' := [some (.int t)]) (st' := [.int (nI 5), .int (nI 0), .int t]) (I' := I) (J' := J) rfl ?_
  refine EV_cS (own := 12) (idx := 62) (μ' := mX12_in) (av := [.int t, .int (nI 0), .int (nI 5)]) (rest := []) C hR rfl (Or.inl ⟨896, by decide⟩) kX12_in sX12_in (c_X12_in g I J t (nI 0) (nI 5) ) (by decide +kernel) rfl (by decide) (Nat.le_of_ble_eq_true rfl) rfl ⟨Nat.zero_le _, Nat.zero_le _⟩ ?_
  exact EV_zret C hZ rfl tq_b01 (by decide +kernel) (Nat.le_refl _) (Nat.le_refl _) ⟨tq_some rfl, rfl, rfl, rfl, rfl⟩
set_option maxRecDepth 20000 in
theorem c_X12_isCorner (g : tq_G) (I : tq_I) (J : Int64) (x y : Int32)  : CT g mX12_isCorner 1 0 0 [.ref 117, .int x, .int y] (tq_SC ++ tq_SR) tq_RR I J (tq_ret (tq_SC ++ tq_SR) tq_RR (some (.int (tq_b (tr_corner I x y)))) I J) := by
  refine CT.ret kX12_isCorner (Nat.le_of_ble_eq_true rfl) (fun x0 C hR hZ => ?_)
  refine EV_en (lv' := [some (.ref 117), some (.int x), some (.int y)]) 0 rfl ?_
  refine EV_blk (own := 12) C rfl [(.iload_n 1, 0, 0, 0, 0), (.iconst 0, 0, 0, 0, (nI 0)), (.aload_n 0, 0, 0, 0, 0), (.getfield 7, 12, 0, 899, 0), (.iconst 0, 0, 0, 0, (nI 0))] (pc' := 7) (by decide +kernel) (lv' := [some (.ref 117), some (.int x), some (.int y)]) (st' := [.int (nI 0), .ref 118, .int (nI 0), .int x]) (I' := I) (J' := J) rfl ?_
  refine EV_iald (j := 0) C (by decide +kernel) rfl (nI_toInt (by omega)) (by omega) ?_
  refine EV_cS (own := 12) (idx := 62) (μ' := mX12_in) (av := [.int x, .int (nI 0), .int (I 118 0)]) (rest := []) C hR rfl (Or.inl ⟨896, by decide⟩) kX12_in sX12_in (c_X12_in g I J x (nI 0) (I 118 0) ) (by decide +kernel) rfl (by decide) (Nat.le_of_ble_eq_true rfl) rfl ⟨Nat.zero_le _, Nat.zero_le _⟩ ?_
  refine EV_if_eq (off := 21) (tgt := 32) C (by decide +kernel) (by decide) (fun h1 => ?_) (fun h1 => ?_)
  · skip
    refine EV_blk (own := 12) C rfl [(.iconst 0, 0, 0, 0, (nI 0))] (pc' := 33) (by decide +kernel) (lv' := [some (.ref 117), some (.int x), some (.int y)]) (st' := [.int (nI 0)]) (I' := I) (J' := J) rfl ?_
    exact EV_zret C hZ rfl (by decide) (by decide +kernel) (Nat.le_refl _) (Nat.le_refl _) ⟨tq_r0 (fun q => tq_b0.mp h1 q.1), rfl, rfl, rfl, rfl⟩
  · skip
    refine EV_blk (own := 12) C rfl [(.iload_n 2, 0, 0, 0, 0), (.iconst 0, 0, 0, 0, (nI 0)), (.aload_n 0, 0, 0, 0, 0), (.getfield 7, 12, 0, 899, 0), (.iconst 1, 0, 0, 0, (nI 1))] (pc' := 21) (by decide +kernel) (lv' := [some (.ref 117), some (.int x), some (.int y)]) (st' := [.int (nI 1), .ref 118, .int (nI 0), .int y]) (I' := I) (J' := J) rfl ?_
    refine EV_iald (j := 1) C (by decide +kernel) rfl (nI_toInt (by omega)) (by omega) ?_
    refine EV_cS (own := 12) (idx := 62) (μ' := mX12_in) (av := [.int y, .int (nI 0), .int (I 118 1)]) (rest := []) C hR rfl (Or.inl ⟨896, by decide⟩) kX12_in sX12_in (c_X12_in g I J y (nI 0) (I 118 1) ) (by decide +kernel) rfl (by decide) (Nat.le_of_ble_eq_true rfl) rfl ⟨Nat.zero_le _, Nat.zero_le _⟩ ?_
    refine EV_if_eq (off := 7) (tgt := 32) C (by decide +kernel) (by decide) (fun h2 => ?_) (fun h2 => ?_)
    · skip
      refine EV_blk (own := 12) C rfl [(.iconst 0, 0, 0, 0, (nI 0))] (pc' := 33) (by decide +kernel) (lv' := [some (.ref 117), some (.int x), some (.int y)]) (st' := [.int (nI 0)]) (I' := I) (J' := J) rfl ?_
      exact EV_zret C hZ rfl (by decide) (by decide +kernel) (Nat.le_refl _) (Nat.le_refl _) ⟨tq_r0 (fun q => tq_b0.mp h2 q.2), rfl, rfl, rfl, rfl⟩
    · skip
      refine EV_blk (own := 12) C rfl [(.iconst 1, 0, 0, 0, (nI 1)), (.goto 4, 0, 0, 0, 0)] (pc' := 33) (by decide +kernel) (lv' := [some (.ref 117), some (.int x), some (.int y)]) (st' := [.int (nI 1)]) (I' := I) (J' := J) rfl ?_
      exact EV_zret C hZ rfl (by decide) (by decide +kernel) (Nat.le_refl _) (Nat.le_refl _) ⟨tq_r1 ⟨tq_b10 h1, tq_b10 h2⟩, rfl, rfl, rfl, rfl⟩
set_option maxRecDepth 20000 in
theorem c_X12_isCell (g : tq_G) (I : tq_I) (J : Int64) (x y : Int32)  : CT g mX12_isCell 1 0 0 [.ref 117, .int x, .int y] (tq_SC ++ tq_SR) tq_RR I J (tq_ret (tq_SC ++ tq_SR) tq_RR (some (.int (tq_b (tr_cell I x y)))) I J) := by
  refine CT.ret kX12_isCell (Nat.le_of_ble_eq_true rfl) (fun x0 C hR hZ => ?_)
  refine EV_en (lv' := [some (.ref 117), some (.int x), some (.int y)]) 0 rfl ?_
  refine EV_blk (own := 12) C rfl [(.iload_n 1, 0, 0, 0, 0), (.iconst 0, 0, 0, 0, (nI 0)), (.aload_n 0, 0, 0, 0, 0), (.getfield 7, 12, 0, 899, 0), (.iconst 0, 0, 0, 0, (nI 0))] (pc' := 7) (by decide +kernel) (lv' := [some (.ref 117), some (.int x), some (.int y)]) (st' := [.int (nI 0), .ref 118, .int (nI 0), .int x]) (I' := I) (J' := J) rfl ?_
  refine EV_iald (j := 0) C (by decide +kernel) rfl (nI_toInt (by omega)) (by omega) ?_
  refine EV_blk (own := 12) C rfl [(.iconst 1, 0, 0, 0, (nI 1)), (.isub, 0, 0, 0, 0)] (pc' := 10) (by decide +kernel) (lv' := [some (.ref 117), some (.int x), some (.int y)]) (st' := [.int ((I 118 0) - (nI 1)), .int (nI 0), .int x]) (I' := I) (J' := J) rfl ?_
  refine EV_cS (own := 12) (idx := 62) (μ' := mX12_in) (av := [.int x, .int (nI 0), .int ((I 118 0) - (nI 1))]) (rest := []) C hR rfl (Or.inl ⟨896, by decide⟩) kX12_in sX12_in (c_X12_in g I J x (nI 0) ((I 118 0) - (nI 1)) ) (by decide +kernel) rfl (by decide) (Nat.le_of_ble_eq_true rfl) rfl ⟨Nat.zero_le _, Nat.zero_le _⟩ ?_
  refine EV_if_eq (off := 23) (tgt := 36) C (by decide +kernel) (by decide) (fun h1 => ?_) (fun h1 => ?_)
  · skip
    refine EV_blk (own := 12) C rfl [(.iconst 0, 0, 0, 0, (nI 0))] (pc' := 37) (by decide +kernel) (lv' := [some (.ref 117), some (.int x), some (.int y)]) (st' := [.int (nI 0)]) (I' := I) (J' := J) rfl ?_
    exact EV_zret C hZ rfl (by decide) (by decide +kernel) (Nat.le_refl _) (Nat.le_refl _) ⟨tq_r0 (fun q => tq_b0.mp h1 q.1), rfl, rfl, rfl, rfl⟩
  · skip
    refine EV_blk (own := 12) C rfl [(.iload_n 2, 0, 0, 0, 0), (.iconst 0, 0, 0, 0, (nI 0)), (.aload_n 0, 0, 0, 0, 0), (.getfield 7, 12, 0, 899, 0), (.iconst 1, 0, 0, 0, (nI 1))] (pc' := 23) (by decide +kernel) (lv' := [some (.ref 117), some (.int x), some (.int y)]) (st' := [.int (nI 1), .ref 118, .int (nI 0), .int y]) (I' := I) (J' := J) rfl ?_
    refine EV_iald (j := 1) C (by decide +kernel) rfl (nI_toInt (by omega)) (by omega) ?_
    refine EV_blk (own := 12) C rfl [(.iconst 1, 0, 0, 0, (nI 1)), (.isub, 0, 0, 0, 0)] (pc' := 26) (by decide +kernel) (lv' := [some (.ref 117), some (.int x), some (.int y)]) (st' := [.int ((I 118 1) - (nI 1)), .int (nI 0), .int y]) (I' := I) (J' := J) rfl ?_
    refine EV_cS (own := 12) (idx := 62) (μ' := mX12_in) (av := [.int y, .int (nI 0), .int ((I 118 1) - (nI 1))]) (rest := []) C hR rfl (Or.inl ⟨896, by decide⟩) kX12_in sX12_in (c_X12_in g I J y (nI 0) ((I 118 1) - (nI 1)) ) (by decide +kernel) rfl (by decide) (Nat.le_of_ble_eq_true rfl) rfl ⟨Nat.zero_le _, Nat.zero_le _⟩ ?_
    refine EV_if_eq (off := 7) (tgt := 36) C (by decide +kernel) (by decide) (fun h2 => ?_) (fun h2 => ?_)
    · skip
      refine EV_blk (own := 12) C rfl [(.iconst 0, 0, 0, 0, (nI 0))] (pc' := 37) (by decide +kernel) (lv' := [some (.ref 117), some (.int x), some (.int y)]) (st' := [.int (nI 0)]) (I' := I) (J' := J) rfl ?_
      exact EV_zret C hZ rfl (by decide) (by decide +kernel) (Nat.le_refl _) (Nat.le_refl _) ⟨tq_r0 (fun q => tq_b0.mp h2 q.2), rfl, rfl, rfl, rfl⟩
    · skip
      refine EV_blk (own := 12) C rfl [(.iconst 1, 0, 0, 0, (nI 1)), (.goto 4, 0, 0, 0, 0)] (pc' := 37) (by decide +kernel) (lv' := [some (.ref 117), some (.int x), some (.int y)]) (st' := [.int (nI 1)]) (I' := I) (J' := J) rfl ?_
      exact EV_zret C hZ rfl (by decide) (by decide +kernel) (Nat.le_refl _) (Nat.le_refl _) ⟨tq_r1 ⟨tq_b10 h1, tq_b10 h2⟩, rfl, rfl, rfl, rfl⟩
set_option maxRecDepth 20000 in
theorem c_X12_cornerOf (g : tq_G) (I : tq_I) (J : Int64) (x y : Nat) (hx : x ≤ 20) (hy : y ≤ 20) : CT g mX12_cornerOf 0 0 0 [.ref 117, .int (nI x), .int (nI y)] (tq_SC ++ tq_SR) tq_RR I J (tq_ret (tq_SC ++ tq_SR) tq_RR (some (.int (I 118 (22 + 11 * y + x)))) I J) := by
  refine CT.ret kX12_cornerOf (Nat.le_of_ble_eq_true rfl) (fun x0 C hR hZ => ?_)
  refine EV_en (lv' := [some (.ref 117), some (.int (nI x)), some (.int (nI y))]) 0 rfl ?_
  refine EV_blk (own := 12) C rfl [(.aload_n 0, 0, 0, 0, 0), (.getfield 7, 12, 0, 899, 0), (.bipush 22, 0, 0, 0, (nI 22)), (.bipush 11, 0, 0, 0, (nI 11)), (.iload_n 2, 0, 0, 0, 0), (.imul, 0, 0, 0, 0), (.iadd, 0, 0, 0, 0), (.iload_n 1, 0, 0, 0, 0), (.iadd, 0, 0, 0, 0)] (pc' := 13) (by decide +kernel) (lv' := [some (.ref 117), some (.int (nI x)), some (.int (nI y))]) (st' := [.int (((nI 22) + ((nI 11) * (nI y))) + (nI x)), .ref 118]) (I' := I) (J' := J) rfl ?_
  refine EV_iald (j := ((22 + (11 * y)) + x)) C (by decide +kernel) rfl (tq_toI ((22 + (11 * y)) + x) (by simp (disch := omega) only [nI_add, tq_mul, tq_rem_nI, tq_div_nI, tq_sub_nI]) (by omega)) (by omega) ?_
  exact EV_iret C hZ rfl (by decide +kernel) (Nat.le_refl _) (Nat.le_refl _) ⟨rfl, rfl, rfl, rfl, rfl⟩
theorem tr_six {I : tq_I} {t : Int32} (h0 : ¬ I 118 (4 + 0) = t) (h1 : ¬ I 118 (4 + 1) = t) (h2 : ¬ I 118 (4 + 2) = t) (h3 : ¬ I 118 (4 + 3) = t) (h4 : ¬ I 118 (4 + 4) = t) (h5 : ¬ I 118 (4 + 5) = t) : ¬ ∃ k, k ≤ 5 ∧ I 118 (4 + k) = t := by
  rintro ⟨k, hk, e⟩
  rcases (show k = 0 ∨ k = 1 ∨ k = 2 ∨ k = 3 ∨ k = 4 ∨ k = 5 by omega) with rfl | rfl | rfl | rfl | rfl | rfl <;> contradiction
def r_X12_rankOf (I : tq_I) (t : Int32) : Int32 := (if (I 118 (4 + 0)) = t then (nI 0) else (if (I 118 (4 + 1)) = t then (nI 1) else (if (I 118 (4 + 2)) = t then (nI 2) else (if (I 118 (4 + 3)) = t then (nI 3) else (if (I 118 (4 + 4)) = t then (nI 4) else (nI 5))))))
set_option maxRecDepth 20000 in
theorem c_X12_rankOf (g : tq_G) (I : tq_I) (J : Int64) (t : Int32) (hq : ∃ k, k ≤ 5 ∧ I 118 (4 + k) = t) : CT g mX12_rankOf 0 0 0 [.ref 117, .int t] (tq_SC ++ tq_SR) tq_RR I J (tq_ret (tq_SC ++ tq_SR) tq_RR (some (.int (r_X12_rankOf I t))) I J) := by
  refine CT.ret kX12_rankOf (Nat.le_of_ble_eq_true rfl) (fun x0 C hR hZ => ?_)
  refine EV_en (lv' := [some (.ref 117), some (.int t), none]) 1 rfl ?_
  refine EV_blk (own := 12) C rfl [(.iconst 0, 0, 0, 0, (nI 0)), (.istore_n 2, 0, 0, 0, 0)] (pc' := 2) (by decide +kernel) (lv' := [some (.ref 117), some (.int t), some (.int (nI 0))]) (st' := []) (I' := I) (J' := J) rfl ?_
  refine EV_blk (own := 12) C rfl [(.aload_n 0, 0, 0, 0, 0), (.getfield 7, 12, 0, 899, 0), (.iconst 4, 0, 0, 0, (nI 4)), (.iload_n 2, 0, 0, 0, 0), (.iadd, 0, 0, 0, 0)] (pc' := 9) (by decide +kernel) (lv' := [some (.ref 117), some (.int t), some (.int (nI 0))]) (st' := [.int ((nI 4) + (nI 0)), .ref 118]) (I' := I) (J' := J) rfl ?_
  refine EV_iald (j := (4 + 0)) C (by decide +kernel) rfl (tq_toI (4 + 0) (by simp (disch := omega) only [nI_add, tq_mul, tq_rem_nI, tq_div_nI, tq_sub_nI]) (by omega)) (by omega) ?_
  refine EV_blk (own := 12) C rfl [(.iload_n 1, 0, 0, 0, 0)] (pc' := 11) (by decide +kernel) (lv' := [some (.ref 117), some (.int t), some (.int (nI 0))]) (st' := [.int t, .int (I 118 (4 + 0))]) (I' := I) (J' := J) rfl ?_
  refine EV_icmp_eq (off := 9) (tgt := 20) C (by decide +kernel) (by decide) (fun h1 => ?_) (fun h1 => ?_)
  · skip
    refine EV_blk (own := 12) C rfl [(.iload_n 2, 0, 0, 0, 0)] (pc' := 21) (by decide +kernel) (lv' := [some (.ref 117), some (.int t), some (.int (nI 0))]) (st' := [.int (nI 0)]) (I' := I) (J' := J) rfl ?_
    exact EV_iret C hZ rfl (by decide +kernel) (Nat.le_refl _) (Nat.le_refl _) ⟨tq_some (by simp only [r_X12_rankOf, if_pos h1]), rfl, rfl, rfl, rfl⟩
  · skip
    refine EV_blk (own := 12) C rfl [(.iinc 2 1, 0, 0, 0, (nI 1)), (.goto (-15), 0, 0, 0, 0)] (pc' := 2) (by decide +kernel) (lv' := [some (.ref 117), some (.int t), some (.int ((nI 0) + (nI 1)))]) (st' := []) (I' := I) (J' := J) rfl ?_
    refine EV_lve (lv' := [some (.ref 117), some (.int t), some (.int (nI 1))]) (by rw [show ((nI 0) + (nI 1)) = (nI 1) from by decide]) ?_
    refine EV_blk (own := 12) C rfl [(.aload_n 0, 0, 0, 0, 0), (.getfield 7, 12, 0, 899, 0), (.iconst 4, 0, 0, 0, (nI 4)), (.iload_n 2, 0, 0, 0, 0), (.iadd, 0, 0, 0, 0)] (pc' := 9) (by decide +kernel) (lv' := [some (.ref 117), some (.int t), some (.int (nI 1))]) (st' := [.int ((nI 4) + (nI 1)), .ref 118]) (I' := I) (J' := J) rfl ?_
    refine EV_iald (j := (4 + 1)) C (by decide +kernel) rfl (tq_toI (4 + 1) (by simp (disch := omega) only [nI_add, tq_mul, tq_rem_nI, tq_div_nI, tq_sub_nI]) (by omega)) (by omega) ?_
    refine EV_blk (own := 12) C rfl [(.iload_n 1, 0, 0, 0, 0)] (pc' := 11) (by decide +kernel) (lv' := [some (.ref 117), some (.int t), some (.int (nI 1))]) (st' := [.int t, .int (I 118 (4 + 1))]) (I' := I) (J' := J) rfl ?_
    refine EV_icmp_eq (off := 9) (tgt := 20) C (by decide +kernel) (by decide) (fun h2 => ?_) (fun h2 => ?_)
    · skip
      refine EV_blk (own := 12) C rfl [(.iload_n 2, 0, 0, 0, 0)] (pc' := 21) (by decide +kernel) (lv' := [some (.ref 117), some (.int t), some (.int (nI 1))]) (st' := [.int (nI 1)]) (I' := I) (J' := J) rfl ?_
      exact EV_iret C hZ rfl (by decide +kernel) (Nat.le_refl _) (Nat.le_refl _) ⟨tq_some (by simp only [r_X12_rankOf, if_neg h1, if_pos h2]), rfl, rfl, rfl, rfl⟩
    · skip
      refine EV_blk (own := 12) C rfl [(.iinc 2 1, 0, 0, 0, (nI 1)), (.goto (-15), 0, 0, 0, 0)] (pc' := 2) (by decide +kernel) (lv' := [some (.ref 117), some (.int t), some (.int ((nI 1) + (nI 1)))]) (st' := []) (I' := I) (J' := J) rfl ?_
      refine EV_lve (lv' := [some (.ref 117), some (.int t), some (.int (nI 2))]) (by rw [show ((nI 1) + (nI 1)) = (nI 2) from by decide]) ?_
      refine EV_blk (own := 12) C rfl [(.aload_n 0, 0, 0, 0, 0), (.getfield 7, 12, 0, 899, 0), (.iconst 4, 0, 0, 0, (nI 4)), (.iload_n 2, 0, 0, 0, 0), (.iadd, 0, 0, 0, 0)] (pc' := 9) (by decide +kernel) (lv' := [some (.ref 117), some (.int t), some (.int (nI 2))]) (st' := [.int ((nI 4) + (nI 2)), .ref 118]) (I' := I) (J' := J) rfl ?_
      refine EV_iald (j := (4 + 2)) C (by decide +kernel) rfl (tq_toI (4 + 2) (by simp (disch := omega) only [nI_add, tq_mul, tq_rem_nI, tq_div_nI, tq_sub_nI]) (by omega)) (by omega) ?_
      refine EV_blk (own := 12) C rfl [(.iload_n 1, 0, 0, 0, 0)] (pc' := 11) (by decide +kernel) (lv' := [some (.ref 117), some (.int t), some (.int (nI 2))]) (st' := [.int t, .int (I 118 (4 + 2))]) (I' := I) (J' := J) rfl ?_
      refine EV_icmp_eq (off := 9) (tgt := 20) C (by decide +kernel) (by decide) (fun h3 => ?_) (fun h3 => ?_)
      · skip
        refine EV_blk (own := 12) C rfl [(.iload_n 2, 0, 0, 0, 0)] (pc' := 21) (by decide +kernel) (lv' := [some (.ref 117), some (.int t), some (.int (nI 2))]) (st' := [.int (nI 2)]) (I' := I) (J' := J) rfl ?_
        exact EV_iret C hZ rfl (by decide +kernel) (Nat.le_refl _) (Nat.le_refl _) ⟨tq_some (by simp only [r_X12_rankOf, if_neg h1, if_neg h2, if_pos h3]), rfl, rfl, rfl, rfl⟩
      · skip
        refine EV_blk (own := 12) C rfl [(.iinc 2 1, 0, 0, 0, (nI 1)), (.goto (-15), 0, 0, 0, 0)] (pc' := 2) (by decide +kernel) (lv' := [some (.ref 117), some (.int t), some (.int ((nI 2) + (nI 1)))]) (st' := []) (I' := I) (J' := J) rfl ?_
        refine EV_lve (lv' := [some (.ref 117), some (.int t), some (.int (nI 3))]) (by rw [show ((nI 2) + (nI 1)) = (nI 3) from by decide]) ?_
        refine EV_blk (own := 12) C rfl [(.aload_n 0, 0, 0, 0, 0), (.getfield 7, 12, 0, 899, 0), (.iconst 4, 0, 0, 0, (nI 4)), (.iload_n 2, 0, 0, 0, 0), (.iadd, 0, 0, 0, 0)] (pc' := 9) (by decide +kernel) (lv' := [some (.ref 117), some (.int t), some (.int (nI 3))]) (st' := [.int ((nI 4) + (nI 3)), .ref 118]) (I' := I) (J' := J) rfl ?_
        refine EV_iald (j := (4 + 3)) C (by decide +kernel) rfl (tq_toI (4 + 3) (by simp (disch := omega) only [nI_add, tq_mul, tq_rem_nI, tq_div_nI, tq_sub_nI]) (by omega)) (by omega) ?_
        refine EV_blk (own := 12) C rfl [(.iload_n 1, 0, 0, 0, 0)] (pc' := 11) (by decide +kernel) (lv' := [some (.ref 117), some (.int t), some (.int (nI 3))]) (st' := [.int t, .int (I 118 (4 + 3))]) (I' := I) (J' := J) rfl ?_
        refine EV_icmp_eq (off := 9) (tgt := 20) C (by decide +kernel) (by decide) (fun h4 => ?_) (fun h4 => ?_)
        · skip
          refine EV_blk (own := 12) C rfl [(.iload_n 2, 0, 0, 0, 0)] (pc' := 21) (by decide +kernel) (lv' := [some (.ref 117), some (.int t), some (.int (nI 3))]) (st' := [.int (nI 3)]) (I' := I) (J' := J) rfl ?_
          exact EV_iret C hZ rfl (by decide +kernel) (Nat.le_refl _) (Nat.le_refl _) ⟨tq_some (by simp only [r_X12_rankOf, if_neg h1, if_neg h2, if_neg h3, if_pos h4]), rfl, rfl, rfl, rfl⟩
        · skip
          refine EV_blk (own := 12) C rfl [(.iinc 2 1, 0, 0, 0, (nI 1)), (.goto (-15), 0, 0, 0, 0)] (pc' := 2) (by decide +kernel) (lv' := [some (.ref 117), some (.int t), some (.int ((nI 3) + (nI 1)))]) (st' := []) (I' := I) (J' := J) rfl ?_
          refine EV_lve (lv' := [some (.ref 117), some (.int t), some (.int (nI 4))]) (by rw [show ((nI 3) + (nI 1)) = (nI 4) from by decide]) ?_
          refine EV_blk (own := 12) C rfl [(.aload_n 0, 0, 0, 0, 0), (.getfield 7, 12, 0, 899, 0), (.iconst 4, 0, 0, 0, (nI 4)), (.iload_n 2, 0, 0, 0, 0), (.iadd, 0, 0, 0, 0)] (pc' := 9) (by decide +kernel) (lv' := [some (.ref 117), some (.int t), some (.int (nI 4))]) (st' := [.int ((nI 4) + (nI 4)), .ref 118]) (I' := I) (J' := J) rfl ?_
          refine EV_iald (j := (4 + 4)) C (by decide +kernel) rfl (tq_toI (4 + 4) (by simp (disch := omega) only [nI_add, tq_mul, tq_rem_nI, tq_div_nI, tq_sub_nI]) (by omega)) (by omega) ?_
          refine EV_blk (own := 12) C rfl [(.iload_n 1, 0, 0, 0, 0)] (pc' := 11) (by decide +kernel) (lv' := [some (.ref 117), some (.int t), some (.int (nI 4))]) (st' := [.int t, .int (I 118 (4 + 4))]) (I' := I) (J' := J) rfl ?_
          refine EV_icmp_eq (off := 9) (tgt := 20) C (by decide +kernel) (by decide) (fun h5 => ?_) (fun h5 => ?_)
          · skip
            refine EV_blk (own := 12) C rfl [(.iload_n 2, 0, 0, 0, 0)] (pc' := 21) (by decide +kernel) (lv' := [some (.ref 117), some (.int t), some (.int (nI 4))]) (st' := [.int (nI 4)]) (I' := I) (J' := J) rfl ?_
            exact EV_iret C hZ rfl (by decide +kernel) (Nat.le_refl _) (Nat.le_refl _) ⟨tq_some (by simp only [r_X12_rankOf, if_neg h1, if_neg h2, if_neg h3, if_neg h4, if_pos h5]), rfl, rfl, rfl, rfl⟩
          · skip
            refine EV_blk (own := 12) C rfl [(.iinc 2 1, 0, 0, 0, (nI 1)), (.goto (-15), 0, 0, 0, 0)] (pc' := 2) (by decide +kernel) (lv' := [some (.ref 117), some (.int t), some (.int ((nI 4) + (nI 1)))]) (st' := []) (I' := I) (J' := J) rfl ?_
            refine EV_lve (lv' := [some (.ref 117), some (.int t), some (.int (nI 5))]) (by rw [show ((nI 4) + (nI 1)) = (nI 5) from by decide]) ?_
            refine EV_blk (own := 12) C rfl [(.aload_n 0, 0, 0, 0, 0), (.getfield 7, 12, 0, 899, 0), (.iconst 4, 0, 0, 0, (nI 4)), (.iload_n 2, 0, 0, 0, 0), (.iadd, 0, 0, 0, 0)] (pc' := 9) (by decide +kernel) (lv' := [some (.ref 117), some (.int t), some (.int (nI 5))]) (st' := [.int ((nI 4) + (nI 5)), .ref 118]) (I' := I) (J' := J) rfl ?_
            refine EV_iald (j := (4 + 5)) C (by decide +kernel) rfl (tq_toI (4 + 5) (by simp (disch := omega) only [nI_add, tq_mul, tq_rem_nI, tq_div_nI, tq_sub_nI]) (by omega)) (by omega) ?_
            refine EV_blk (own := 12) C rfl [(.iload_n 1, 0, 0, 0, 0)] (pc' := 11) (by decide +kernel) (lv' := [some (.ref 117), some (.int t), some (.int (nI 5))]) (st' := [.int t, .int (I 118 (4 + 5))]) (I' := I) (J' := J) rfl ?_
            refine EV_icmp_eq (off := 9) (tgt := 20) C (by decide +kernel) (by decide) (fun h6 => ?_) (fun h6 => ?_)
            · skip
              refine EV_blk (own := 12) C rfl [(.iload_n 2, 0, 0, 0, 0)] (pc' := 21) (by decide +kernel) (lv' := [some (.ref 117), some (.int t), some (.int (nI 5))]) (st' := [.int (nI 5)]) (I' := I) (J' := J) rfl ?_
              exact EV_iret C hZ rfl (by decide +kernel) (Nat.le_refl _) (Nat.le_refl _) ⟨tq_some (by simp only [r_X12_rankOf, if_neg h1, if_neg h2, if_neg h3, if_neg h4, if_neg h5, if_pos h6]), rfl, rfl, rfl, rfl⟩
            · skip
              exact absurd hq (tr_six h1 h2 h3 h4 h5 h6)
def tr_rk (I : tq_I) (t : Int32) : Nat := if I 118 (4 + 0) = t then 0 else if I 118 (4 + 1) = t then 1 else if I 118 (4 + 2) = t then 2 else if I 118 (4 + 3) = t then 3 else if I 118 (4 + 4) = t then 4 else 5
theorem tr_rk5 (I : tq_I) (t : Int32) : tr_rk I t ≤ 5 := by
  unfold tr_rk
  (repeat' split) <;> decide
theorem tr_rkr (I : tq_I) (t : Int32) : r_X12_rankOf I t = nI (tr_rk I t) := by
  unfold tr_rk r_X12_rankOf
  (repeat' split) <;> rfl
theorem c_rankOf (g : tq_G) (I : tq_I) (J : Int64) (t : Int32) (hq : ∃ k, k ≤ 5 ∧ I 118 (4 + k) = t) : CT g mX12_rankOf 0 0 0 [.ref 117, .int t] (tq_SC ++ tq_SR) tq_RR I J (tq_ret (tq_SC ++ tq_SR) tq_RR (some (.int (nI (tr_rk I t)))) I J) := by
  rw [← tr_rkr]
  exact c_X12_rankOf g I J t hq
theorem tr_rk_at {I : tq_I} {t : Int32} (hq : ∃ k, k ≤ 5 ∧ I 118 (4 + k) = t) : I 118 (4 + tr_rk I t) = t := by
  unfold tr_rk
  split
  · assumption
  · split
    · assumption
    · split
      · assumption
      · split
        · assumption
        · split
          · assumption
          · obtain ⟨k, hk, e⟩ := hq
            rcases (show k = 0 ∨ k = 1 ∨ k = 2 ∨ k = 3 ∨ k = 4 ∨ k = 5 by omega) with rfl | rfl | rfl | rfl | rfl | rfl <;> first | contradiction | exact e
def I_X12_touches (I : tq_I) (x y : Int32) (w h : Nat) : tq_I := (if (tq_b (tr_cell I x y)) = 0 then I else (tq_u I 118 (243 + 10 * tq_N y + tq_N x) (nI 1)))
set_option maxRecDepth 20000 in
theorem c_X12_touches (g : tq_G) (I : tq_I) (J : Int64) (x y : Int32) (w h : Nat) (k : tr_wh I w h) : CT g mX12_touches 2 0 0 [.ref 117, .int x, .int y] (tq_SC ++ tq_SR) tq_RR I J (tq_ret (tq_SC ++ tq_SR) tq_RR none (I_X12_touches I x y w h) J) := by
  refine CT.ret kX12_touches (Nat.le_of_ble_eq_true rfl) (fun x0 C hR hZ => ?_)
  refine EV_en (lv' := [some (.ref 117), some (.int x), some (.int y)]) 0 rfl ?_
  refine EV_blk (own := 12) C rfl [(.aload_n 0, 0, 0, 0, 0), (.iload_n 1, 0, 0, 0, 0), (.iload_n 2, 0, 0, 0, 0)] (pc' := 3) (by decide +kernel) (lv' := [some (.ref 117), some (.int x), some (.int y)]) (st' := [.int y, .int x, .ref 117]) (I' := I) (J' := J) rfl ?_
  refine EV_cV (own := 12) (idx := 66) (μ' := mX12_isCell) (b := 117) (cb := 12) (av := [.int x, .int y]) (rest := []) C hR rfl (Or.inl ⟨892, by decide⟩) kX12_isCell sX12_isCell (c_X12_isCell g I J x y ) rfl rfl (by decide +kernel) rfl (by decide) (Nat.le_of_ble_eq_true rfl) rfl ⟨Nat.zero_le _, Nat.zero_le _⟩ ?_
  refine EV_if_eq (off := 19) (tgt := 25) C (by decide +kernel) (by decide) (fun h1 => ?_) (fun h1 => ?_)
  · skip
    exact EV_vret C hZ rfl (by decide +kernel) (Nat.le_refl _) (Nat.le_refl _) ⟨rfl, rfl, rfl, by simp only [I_X12_touches, if_pos h1], rfl⟩
  · skip
    have hc := tq_b10 h1
    have hx := tr_cell.ix k hc
    have hk := k.2.2.2.1
    have hk2 := k.2.2.2.2.2
    have hxa := (k.cell.mp hc).2.1
    have hya := (k.cell.mp hc).2.2.2
    refine EV_blk (own := 12) C rfl [(.aload_n 0, 0, 0, 0, 0), (.getfield 7, 12, 0, 899, 0), (.sipush 243, 0, 0, 0, (nI 243)), (.bipush 10, 0, 0, 0, (nI 10)), (.iload_n 2, 0, 0, 0, 0), (.imul, 0, 0, 0, 0), (.iadd, 0, 0, 0, 0), (.iload_n 1, 0, 0, 0, 0), (.iadd, 0, 0, 0, 0), (.iconst 1, 0, 0, 0, (nI 1))] (pc' := 24) (by decide +kernel) (lv' := [some (.ref 117), some (.int x), some (.int y)]) (st' := [.int (nI 1), .int (((nI 243) + ((nI 10) * y)) + x), .ref 118]) (I' := I) (J' := J) rfl ?_
    refine EV_iast (j := (243 + 10 * tq_N y + tq_N x)) C (by decide +kernel) rfl (tq_ixr 243 10 hx.1 (by omega) hx.2.1 (by omega) (by decide) (by decide)) (by omega) ?_
    exact EV_vret C hZ rfl (by decide +kernel) (Nat.le_refl _) (Nat.le_refl _) ⟨rfl, rfl, rfl, by simp only [I_X12_touches, if_neg h1], rfl⟩
theorem fr_X12_touches (I : tq_I) (x y : Int32) (w h : Nat) {cz : Nat} (hc : cz ≠ 118) (jz : Nat) : I_X12_touches I x y w h cz jz = I cz jz := by
  have hc0 := hc
  simp only [I_X12_touches]
  (repeat' split) <;> simp (disch := first | assumption | (simp only [ne_eq] at *; simp [*])) [tq_u, tq_cp, hc0]
theorem fs_touches {I : tq_I} {x y : Int32} {w h j : Nat} (k : tr_wh I w h) (hj : j < 243 ∨ 343 ≤ j) : I_X12_touches I x y w h 118 j = I 118 j := by
  unfold I_X12_touches
  split
  · rfl
  · rename_i hc
    have hx := tr_cell.ix k (tq_b10 hc)
    have hk := k.2.2.2.1
    have hk2 := k.2.2.2.2.2
    exact tq_u_slot (by omega)
theorem tr_wh.touches {I : tq_I} {x y : Int32} {w h : Nat} (k : tr_wh I w h) : tr_wh (I_X12_touches I x y w h) w h := k.cong (fs_touches k (by decide)) (fs_touches k (by decide))
def f_ta1 (w h : Nat) (i : Nat) (a : tq_I) : tq_I := (I_X12_touches a (nI (i % 10)) (nI (i / 10)) w h)
set_option maxRecDepth 20000 in
theorem lp_ta1 {g : tq_G} {x0 : tq_X} (C : tq_C g mX12_touchesAll x0) (hR : tq_ht x0 3 0 0) (J : Int64) (w h : Nat)  : ∀ (n i : Nat) (a : tq_I), i + n = 100 → tr_wh a w h → EV g mX12_touchesAll x0 0 0 26 [some (.ref 117), some (.int (nI (i + n)))] [] (tq_SC ++ tq_SR) tq_RR (tq_it (f_ta1 w h) n i a) J → EV g mX12_touchesAll x0 0 0 2 [some (.ref 117), some (.int (nI i))] [] (tq_SC ++ tq_SR) tq_RR a J := by
  intro n
  induction n with
  | zero =>
    intro i a hi hI kk
    rw [Nat.add_zero] at kk
    refine EV_blk (own := 12) C rfl [(.iload_n 1, 0, 0, 0, 0), (.bipush 100, 0, 0, 0, (nI 100))] (pc' := 5) (by decide +kernel) (lv' := [some (.ref 117), some (.int (nI i))]) (st' := [.int (nI 100), .int (nI i)]) (I' := a) (J' := J) rfl ?_
    refine EV_icmp_ge (off := 21) (tgt := 26) C (by decide +kernel) (by decide) (fun h1 => ?_) (fun h1 => ?_)
    · skip
      exact kk
    · skip
      exact absurd h1 (by simp (disch := omega) only [Int32.lt_iff_toInt_lt, Int32.le_iff_toInt_le, Int32.toInt_zero, nI_toInt, tq_m1]; omega)
  | succ n ih =>
    intro i a hi hI kk
    rw [show i + (n + 1) = (i + 1) + n by omega] at kk
    refine EV_blk (own := 12) C rfl [(.iload_n 1, 0, 0, 0, 0), (.bipush 100, 0, 0, 0, (nI 100))] (pc' := 5) (by decide +kernel) (lv' := [some (.ref 117), some (.int (nI i))]) (st' := [.int (nI 100), .int (nI i)]) (I' := a) (J' := J) rfl ?_
    refine EV_icmp_ge (off := 21) (tgt := 26) C (by decide +kernel) (by decide) (fun h1 => ?_) (fun h1 => ?_)
    · skip
      exact absurd h1 (by simp (disch := omega) only [Int32.lt_iff_toInt_lt, Int32.le_iff_toInt_le, Int32.toInt_zero, nI_toInt, tq_m1]; omega)
    · skip
      refine EV_blk (own := 12) C rfl [(.aload_n 0, 0, 0, 0, 0), (.iload_n 1, 0, 0, 0, 0), (.bipush 10, 0, 0, 0, (nI 10))] (pc' := 12) (by decide +kernel) (lv' := [some (.ref 117), some (.int (nI i))]) (st' := [.int (nI 10), .int (nI i), .ref 117]) (I' := a) (J' := J) rfl ?_
      refine EV_irem C (by decide +kernel) (by decide) ?_
      refine EV_blk (own := 12) C rfl [(.iload_n 1, 0, 0, 0, 0), (.bipush 10, 0, 0, 0, (nI 10))] (pc' := 16) (by decide +kernel) (lv' := [some (.ref 117), some (.int (nI i))]) (st' := [.int (nI 10), .int (nI i), .int (tq_rem (nI i) (nI 10)), .ref 117]) (I' := a) (J' := J) rfl ?_
      refine EV_idiv C (by decide +kernel) (by decide) ?_
      rw [show ((nI i) / (nI 10)) = (nI (i / 10)) from by simp (disch := omega) only [nI_add, tq_mul, tq_rem_nI, tq_div_nI, tq_sub_nI]]
      rw [show (tq_rem (nI i) (nI 10)) = (nI (i % 10)) from by simp (disch := omega) only [nI_add, tq_mul, tq_rem_nI, tq_div_nI, tq_sub_nI]]
      refine EV_cV (own := 12) (idx := 70) (μ' := mX12_touches) (b := 117) (cb := 12) (av := [.int (nI (i % 10)), .int (nI (i / 10))]) (rest := []) C hR rfl (Or.inl ⟨888, by decide⟩) kX12_touches sX12_touches (c_X12_touches g a J (nI (i % 10)) (nI (i / 10)) w h hI) rfl rfl (by decide +kernel) rfl (by decide) (Nat.le_of_ble_eq_true rfl) rfl ⟨Nat.zero_le _, Nat.zero_le _⟩ ?_
      refine EV_blk (own := 12) C rfl [(.iinc 1 1, 0, 0, 0, (nI 1)), (.goto (-21), 0, 0, 0, 0)] (pc' := 2) (by decide +kernel) (lv' := [some (.ref 117), some (.int ((nI i) + (nI 1)))]) (st' := []) (I' := (I_X12_touches a (nI (i % 10)) (nI (i / 10)) w h)) (J' := J) rfl ?_
      rw [show ((nI i) + (nI 1)) = (nI (i + 1)) from by simp (disch := omega) only [nI_add, tq_mul] <;> exact congrArg nI (by omega)]
      rw [tq_its, show (f_ta1 w h) i a = (I_X12_touches a (nI (i % 10)) (nI (i / 10)) w h) from by simp only [f_ta1, if_neg h1]] at kk
      exact ih (i + 1) (I_X12_touches a (nI (i % 10)) (nI (i / 10)) w h) (by omega) hI.touches kk
theorem fr_ta1 (w h : Nat) {cz : Nat} (hc : cz ≠ 118) (n i : Nat) (a : tq_I) (jz : Nat) : (tq_it (f_ta1 w h) n i a) cz jz = a cz jz := by
  have hc0 := hc
  refine tq_itF (fun i a j => ?_) n i a jz
  simp only [f_ta1]
  (repeat' split) <;> simp (disch := first | assumption | (simp only [ne_eq] at *; simp [*])) [tq_u, tq_cp, hc0, fr_X12_touches]
def I_X12_touchesAll (I : tq_I) (w h : Nat) : tq_I := (tq_it (f_ta1 w h) 100 0 I)
set_option maxRecDepth 20000 in
theorem c_X12_touchesAll (g : tq_G) (I : tq_I) (J : Int64) (w h : Nat) (k : tr_wh I w h) : CT g mX12_touchesAll 3 0 0 [.ref 117] (tq_SC ++ tq_SR) tq_RR I J (tq_ret (tq_SC ++ tq_SR) tq_RR none (I_X12_touchesAll I w h) J) := by
  refine CT.ret kX12_touchesAll (Nat.le_of_ble_eq_true rfl) (fun x0 C hR hZ => ?_)
  refine EV_en (lv' := [some (.ref 117), none]) 1 rfl ?_
  refine EV_blk (own := 12) C rfl [(.iconst 0, 0, 0, 0, (nI 0)), (.istore_n 1, 0, 0, 0, 0)] (pc' := 2) (by decide +kernel) (lv' := [some (.ref 117), some (.int (nI 0))]) (st' := []) (I' := I) (J' := J) rfl ?_
  refine lp_ta1 C hR J w h  100 0 I (by omega) k ?_
  exact EV_vret C hZ rfl (by decide +kernel) (Nat.le_refl _) (Nat.le_refl _) ⟨rfl, rfl, rfl, by simp only [I_X12_touchesAll], rfl⟩
theorem fr_X12_touchesAll (I : tq_I) (w h : Nat) {cz : Nat} (hc : cz ≠ 118) (jz : Nat) : I_X12_touchesAll I w h cz jz = I cz jz := by
  have hc0 := hc
  simp only [I_X12_touchesAll]
  (repeat' split) <;> simp (disch := first | assumption | (simp only [ne_eq] at *; simp [*])) [tq_u, tq_cp, hc0, fr_X12_touches, fr_ta1]
theorem fs_ta1 {I : tq_I} {w h : Nat} (k : tr_wh I w h) (n i : Nat) : tr_wh (tq_it (f_ta1 w h) n i I) w h ∧ ∀ j, (j < 243 ∨ 343 ≤ j) → tq_it (f_ta1 w h) n i I 118 j = I 118 j := by
  refine tq_itP (fun a => tr_wh a w h ∧ ∀ j, (j < 243 ∨ 343 ≤ j) → a 118 j = I 118 j) (fun i a ha => ?_) n i I ⟨k, fun _ _ => rfl⟩
  exact ⟨ha.1.touches, fun j hj => by rw [← ha.2 j hj]; exact fs_touches ha.1 hj⟩
theorem fs_touchesAll {I : tq_I} {w h j : Nat} (k : tr_wh I w h) (hj : j < 243 ∨ 343 ≤ j) : I_X12_touchesAll I w h 118 j = I 118 j := (fs_ta1 k 100 0).2 j hj
theorem tr_wh.touchesAll {I : tq_I} {w h : Nat} (k : tr_wh I w h) : tr_wh (I_X12_touchesAll I w h) w h := (fs_ta1 k 100 0).1
def f_cps1 (f t : Nat) (i : Nat) (a : tq_I) : tq_I := (tq_u a 118 ((1343 * t) + i) (a 118 ((1343 * f) + i)))
set_option maxRecDepth 20000 in
theorem lp_cps1 {g : tq_G} {x0 : tq_X} (C : tq_C g mX12_copies x0) (hR : tq_ht x0 0 0 0) (J : Int64) (f t : Nat) (hf : f ≤ 5) (ht : t ≤ 5) : ∀ (n i : Nat) (a : tq_I), i + n = 1343 → EV g mX12_copies x0 0 0 39 [some (.ref 117), some (.int (nI f)), some (.int (nI t)), some (.int (nI (i + n)))] [] (tq_SC ++ tq_SR) tq_RR (tq_it (f_cps1 f t) n i a) J → EV g mX12_copies x0 0 0 2 [some (.ref 117), some (.int (nI f)), some (.int (nI t)), some (.int (nI i))] [] (tq_SC ++ tq_SR) tq_RR a J := by
  intro n
  induction n with
  | zero =>
    intro i a hi kk
    rw [Nat.add_zero] at kk
    refine EV_blk (own := 12) C rfl [(.iload_n 3, 0, 0, 0, 0), (.sipush 1343, 0, 0, 0, (nI 1343))] (pc' := 6) (by decide +kernel) (lv' := [some (.ref 117), some (.int (nI f)), some (.int (nI t)), some (.int (nI i))]) (st' := [.int (nI 1343), .int (nI i)]) (I' := a) (J' := J) rfl ?_
    refine EV_icmp_ge (off := 33) (tgt := 39) C (by decide +kernel) (by decide) (fun h1 => ?_) (fun h1 => ?_)
    · skip
      exact kk
    · skip
      exact absurd h1 (by simp (disch := omega) only [Int32.lt_iff_toInt_lt, Int32.le_iff_toInt_le, Int32.toInt_zero, nI_toInt, tq_m1]; omega)
  | succ n ih =>
    intro i a hi kk
    rw [show i + (n + 1) = (i + 1) + n by omega] at kk
    refine EV_blk (own := 12) C rfl [(.iload_n 3, 0, 0, 0, 0), (.sipush 1343, 0, 0, 0, (nI 1343))] (pc' := 6) (by decide +kernel) (lv' := [some (.ref 117), some (.int (nI f)), some (.int (nI t)), some (.int (nI i))]) (st' := [.int (nI 1343), .int (nI i)]) (I' := a) (J' := J) rfl ?_
    refine EV_icmp_ge (off := 33) (tgt := 39) C (by decide +kernel) (by decide) (fun h1 => ?_) (fun h1 => ?_)
    · skip
      exact absurd h1 (by simp (disch := omega) only [Int32.lt_iff_toInt_lt, Int32.le_iff_toInt_le, Int32.toInt_zero, nI_toInt, tq_m1]; omega)
    · skip
      refine EV_blk (own := 12) C rfl [(.aload_n 0, 0, 0, 0, 0), (.getfield 7, 12, 0, 899, 0), (.sipush 1343, 0, 0, 0, (nI 1343)), (.iload_n 2, 0, 0, 0, 0), (.imul, 0, 0, 0, 0), (.iload_n 3, 0, 0, 0, 0), (.iadd, 0, 0, 0, 0), (.aload_n 0, 0, 0, 0, 0), (.getfield 7, 12, 0, 899, 0), (.sipush 1343, 0, 0, 0, (nI 1343)), (.iload_n 1, 0, 0, 0, 0), (.imul, 0, 0, 0, 0), (.iload_n 3, 0, 0, 0, 0), (.iadd, 0, 0, 0, 0)] (pc' := 31) (by decide +kernel) (lv' := [some (.ref 117), some (.int (nI f)), some (.int (nI t)), some (.int (nI i))]) (st' := [.int (((nI 1343) * (nI f)) + (nI i)), .ref 118, .int (((nI 1343) * (nI t)) + (nI i)), .ref 118]) (I' := a) (J' := J) rfl ?_
      refine EV_iald (j := ((1343 * f) + i)) C (by decide +kernel) rfl (tq_toI ((1343 * f) + i) (by simp (disch := omega) only [nI_add, tq_mul, tq_rem_nI, tq_div_nI, tq_sub_nI]) (by omega)) (by omega) ?_
      refine EV_iast (j := ((1343 * t) + i)) C (by decide +kernel) rfl (tq_toI ((1343 * t) + i) (by simp (disch := omega) only [nI_add, tq_mul, tq_rem_nI, tq_div_nI, tq_sub_nI]) (by omega)) (by omega) ?_
      refine EV_blk (own := 12) C rfl [(.iinc 3 1, 0, 0, 0, (nI 1)), (.goto (-34), 0, 0, 0, 0)] (pc' := 2) (by decide +kernel) (lv' := [some (.ref 117), some (.int (nI f)), some (.int (nI t)), some (.int ((nI i) + (nI 1)))]) (st' := []) (I' := (tq_u a 118 ((1343 * t) + i) (a 118 ((1343 * f) + i)))) (J' := J) rfl ?_
      rw [show ((nI i) + (nI 1)) = (nI (i + 1)) from by simp (disch := omega) only [nI_add, tq_mul] <;> exact congrArg nI (by omega)]
      rw [tq_its, show (f_cps1 f t) i a = (tq_u a 118 ((1343 * t) + i) (a 118 ((1343 * f) + i))) from by simp only [f_cps1, if_neg h1]] at kk
      exact ih (i + 1) (tq_u a 118 ((1343 * t) + i) (a 118 ((1343 * f) + i))) (by omega) kk
theorem fr_cps1 (f t : Nat) {cz : Nat} (hc : cz ≠ 118) (n i : Nat) (a : tq_I) (jz : Nat) : (tq_it (f_cps1 f t) n i a) cz jz = a cz jz := by
  have hc0 := hc
  refine tq_itF (fun i a j => ?_) n i a jz
  simp only [f_cps1]
  (repeat' split) <;> simp (disch := first | assumption | (simp only [ne_eq] at *; simp [*])) [tq_u, tq_cp, hc0, fr_X12_touches, fr_ta1, fr_X12_touchesAll]
def I_X12_copies (I : tq_I) (f t : Nat) : tq_I := (tq_it (f_cps1 f t) 1343 0 I)
set_option maxRecDepth 20000 in
theorem c_X12_copies (g : tq_G) (I : tq_I) (J : Int64) (f t : Nat) (hf : f ≤ 5) (ht : t ≤ 5) : CT g mX12_copies 0 0 0 [.ref 117, .int (nI f), .int (nI t)] (tq_SC ++ tq_SR) tq_RR I J (tq_ret (tq_SC ++ tq_SR) tq_RR none (I_X12_copies I f t) J) := by
  refine CT.ret kX12_copies (Nat.le_of_ble_eq_true rfl) (fun x0 C hR hZ => ?_)
  refine EV_en (lv' := [some (.ref 117), some (.int (nI f)), some (.int (nI t)), none]) 1 rfl ?_
  refine EV_blk (own := 12) C rfl [(.iconst 0, 0, 0, 0, (nI 0)), (.istore_n 3, 0, 0, 0, 0)] (pc' := 2) (by decide +kernel) (lv' := [some (.ref 117), some (.int (nI f)), some (.int (nI t)), some (.int (nI 0))]) (st' := []) (I' := I) (J' := J) rfl ?_
  refine lp_cps1 C hR J f t hf ht 1343 0 I (by omega) ?_
  exact EV_vret C hZ rfl (by decide +kernel) (Nat.le_refl _) (Nat.le_refl _) ⟨rfl, rfl, rfl, by simp only [I_X12_copies], rfl⟩
theorem fr_X12_copies (I : tq_I) (f t : Nat) {cz : Nat} (hc : cz ≠ 118) (jz : Nat) : I_X12_copies I f t cz jz = I cz jz := by
  have hc0 := hc
  simp only [I_X12_copies]
  (repeat' split) <;> simp (disch := first | assumption | (simp only [ne_eq] at *; simp [*])) [tq_u, tq_cp, hc0, fr_X12_touches, fr_ta1, fr_X12_touchesAll, fr_cps1]
theorem tr_cpsn {I : tq_I} {f t : Nat} (hne : f ≠ t) : ∀ (n i : Nat) (a : tq_I), i + n = 1343 → a = tq_cp I 118 (1343 * f) 118 (1343 * t) i → tq_it (f_cps1 f t) n i a = tq_cp I 118 (1343 * f) 118 (1343 * t) 1343
  | 0, i, a, hi, e => by rw [show i = 1343 by omega] at e; exact e
  | n + 1, i, a, hi, e => by
    refine tr_cpsn hne n (i + 1) _ (by omega) ?_
    funext c j
    simp only [f_cps1, tq_u, e, tq_cp]
    have h1 : ¬ (True ∧ 1343 * t ≤ 1343 * f + i ∧ 1343 * f + i < 1343 * t + i) := by
      intro q
      rcases Nat.lt_or_gt_of_ne hne with hl | hl
      · have : 1343 * (f + 1) ≤ 1343 * t := Nat.mul_le_mul (Nat.le_refl _) hl
        omega
      · have : 1343 * (t + 1) ≤ 1343 * f := Nat.mul_le_mul (Nat.le_refl _) hl
        omega
    rw [if_neg h1]
    by_cases hc : c = 118
    · subst hc
      by_cases hj : j = 1343 * t + i
      · rw [if_pos ⟨rfl, hj⟩, if_pos ⟨rfl, by omega, by omega⟩, hj]
        congr 1
        omega
      · rw [if_neg (fun q => hj q.2)]
        by_cases hq : 1343 * t ≤ j ∧ j < 1343 * t + i
        · rw [if_pos ⟨rfl, hq⟩, if_pos ⟨rfl, by omega, by omega⟩]
        · rw [if_neg (fun q => hq q.2), if_neg (fun q => by omega)]
    · rw [if_neg (fun q => hc q.1), if_neg (fun q => hc q.1), if_neg (fun q => hc q.1)]
theorem c_copies (g : tq_G) (I : tq_I) (J : Int64) (f t : Nat) (hf : f ≤ 5) (ht : t ≤ 5) (hne : f ≠ t) : CT g mX12_copies 0 0 0 [.ref 117, .int (nI f), .int (nI t)] (tq_SC ++ tq_SR) tq_RR I J (tq_ret (tq_SC ++ tq_SR) tq_RR none (tq_cp I 118 (1343 * f) 118 (1343 * t) 1343) J) := by
  have e : I_X12_copies I f t = tq_cp I 118 (1343 * f) 118 (1343 * t) 1343 := by
    unfold I_X12_copies
    refine tr_cpsn hne 1343 0 I rfl ?_
    funext c j
    simp only [tq_cp]
    rw [if_neg (fun q => by omega)]
  rw [← e]
  exact c_X12_copies g I J f t hf ht
