/-! Rules and Tiles: 5 the rules, 6 ranks, 7 byRank, 8 variants, 9 tiles, 10 sets, 11 partSets; Canvas.shows and take over the sketch 102 .. 106 -/
set_option maxRecDepth 20000 in
theorem c_X6_rankOf (g : tq_G) (rest : List tq_S) (I : tq_I) (J : Int64) (t : Nat) (ht : t ≤ 5) : CT g mX6_rankOf 0 0 0 [.ref 5, .int (nI t)] (tq_SC ++ rest) tq_RR I J (tq_ret (tq_SC ++ rest) tq_RR (some (.int (I 6 t))) I J) := by
  refine CT.ret kX6_rankOf (Nat.le_of_ble_eq_true rfl) (fun x0 C hR hZ => ?_)
  refine EV_en (lv' := [some (.ref 5), some (.int (nI t))]) 0 rfl ?_
  refine EV_blk (own := 6) C rfl [(.aload_n 0, 0, 0, 0, 0), (.getfield 9, 6, 0, 142, 0), (.iload_n 1, 0, 0, 0, 0)] (pc' := 5) (by decide +kernel) (lv' := [some (.ref 5), some (.int (nI t))]) (st' := [.int (nI t), .ref 6]) (I' := I) (J' := J) rfl ?_
  refine EV_iald (j := t) C (by decide +kernel) rfl (nI_toInt (by omega)) (by omega) ?_
  exact EV_iret C hZ rfl (by decide +kernel) (Nat.le_refl _) (Nat.le_refl _) ⟨rfl, rfl, rfl, rfl, rfl⟩
set_option maxRecDepth 20000 in
theorem c_X6_terrainWithRank (g : tq_G) (rest : List tq_S) (I : tq_I) (J : Int64) (t : Nat) (ht : t ≤ 5) : CT g mX6_terrainWithRank 0 0 0 [.ref 5, .int (nI t)] (tq_SC ++ rest) tq_RR I J (tq_ret (tq_SC ++ rest) tq_RR (some (.int (I 7 t))) I J) := by
  refine CT.ret kX6_terrainWithRank (Nat.le_of_ble_eq_true rfl) (fun x0 C hR hZ => ?_)
  refine EV_en (lv' := [some (.ref 5), some (.int (nI t))]) 0 rfl ?_
  refine EV_blk (own := 6) C rfl [(.aload_n 0, 0, 0, 0, 0), (.getfield 15, 6, 1, 143, 0), (.iload_n 1, 0, 0, 0, 0)] (pc' := 5) (by decide +kernel) (lv' := [some (.ref 5), some (.int (nI t))]) (st' := [.int (nI t), .ref 7]) (I' := I) (J' := J) rfl ?_
  refine EV_iald (j := t) C (by decide +kernel) rfl (nI_toInt (by omega)) (by omega) ?_
  exact EV_iret C hZ rfl (by decide +kernel) (Nat.le_refl _) (Nat.le_refl _) ⟨rfl, rfl, rfl, rfl, rfl⟩
set_option maxRecDepth 20000 in
theorem c_X10_setOf (g : tq_G) (rest : List tq_S) (I : tq_I) (J : Int64) (t : Nat) (ht : t ≤ 5) : CT g mX10_setOf 0 0 0 [.ref 9, .int (nI t)] (tq_SC ++ rest) tq_RR I J (tq_ret (tq_SC ++ rest) tq_RR (some (.int (I 10 t))) I J) := by
  refine CT.ret kX10_setOf (Nat.le_of_ble_eq_true rfl) (fun x0 C hR hZ => ?_)
  refine EV_en (lv' := [some (.ref 9), some (.int (nI t))]) 0 rfl ?_
  refine EV_blk (own := 10) C rfl [(.aload_n 0, 0, 0, 0, 0), (.getfield 9, 10, 0, 131, 0), (.iload_n 1, 0, 0, 0, 0)] (pc' := 5) (by decide +kernel) (lv' := [some (.ref 9), some (.int (nI t))]) (st' := [.int (nI t), .ref 10]) (I' := I) (J' := J) rfl ?_
  refine EV_iald (j := t) C (by decide +kernel) rfl (nI_toInt (by omega)) (by omega) ?_
  exact EV_iret C hZ rfl (by decide +kernel) (Nat.le_refl _) (Nat.le_refl _) ⟨rfl, rfl, rfl, rfl, rfl⟩
set_option maxRecDepth 20000 in
theorem c_X10_partsOf (g : tq_G) (rest : List tq_S) (I : tq_I) (J : Int64) (t m : Nat) (ht : t ≤ 5) (hm : m ≤ 15) : CT g mX10_partsOf 0 0 0 [.ref 9, .int (nI t), .int (nI m)] (tq_SC ++ rest) tq_RR I J (tq_ret (tq_SC ++ rest) tq_RR (some (.int (I 11 (t * 16 + m)))) I J) := by
  refine CT.ret kX10_partsOf (Nat.le_of_ble_eq_true rfl) (fun x0 C hR hZ => ?_)
  refine EV_en (lv' := [some (.ref 9), some (.int (nI t)), some (.int (nI m))]) 0 rfl ?_
  refine EV_blk (own := 10) C rfl [(.aload_n 0, 0, 0, 0, 0), (.getfield 15, 10, 1, 132, 0), (.iload_n 1, 0, 0, 0, 0), (.bipush 16, 0, 0, 0, (nI 16)), (.imul, 0, 0, 0, 0), (.iload_n 2, 0, 0, 0, 0), (.iadd, 0, 0, 0, 0)] (pc' := 10) (by decide +kernel) (lv' := [some (.ref 9), some (.int (nI t)), some (.int (nI m))]) (st' := [.int (((nI t) * (nI 16)) + (nI m)), .ref 11]) (I' := I) (J' := J) rfl ?_
  refine EV_iald (j := ((t * 16) + m)) C (by decide +kernel) rfl (tq_toI ((t * 16) + m) (by simp (disch := omega) only [nI_add, tq_mul, tq_rem_nI, tq_div_nI, tq_sub_nI]) (by omega)) (by omega) ?_
  exact EV_iret C hZ rfl (by decide +kernel) (Nat.le_refl _) (Nat.le_refl _) ⟨rfl, rfl, rfl, rfl, rfl⟩
def I_X6_place (I : tq_I) (t r : Int32) : tq_I := (tq_u (tq_u I 6 (tq_N t) r) 7 (tq_N r) t)
set_option maxRecDepth 20000 in
theorem c_X6_place (g : tq_G) (rest : List tq_S) (I : tq_I) (J : Int64) (t r : Int32) (ht0 : 0 ≤ t.toInt) (ht5 : t.toInt ≤ 5) (hr0 : 0 ≤ r.toInt) (hr5 : r.toInt ≤ 5) : CT g mX6_place 0 0 0 [.ref 5, .int t, .int r] (tq_SC ++ rest) tq_RR I J (tq_ret (tq_SC ++ rest) tq_RR none (I_X6_place I t r) J) := by
  refine CT.ret kX6_place (Nat.le_of_ble_eq_true rfl) (fun x0 C hR hZ => ?_)
  refine EV_en (lv' := [some (.ref 5), some (.int t), some (.int r)]) 0 rfl ?_
  refine EV_blk (own := 6) C rfl [(.aload_n 0, 0, 0, 0, 0), (.getfield 9, 6, 0, 142, 0), (.iload_n 1, 0, 0, 0, 0), (.iload_n 2, 0, 0, 0, 0)] (pc' := 6) (by decide +kernel) (lv' := [some (.ref 5), some (.int t), some (.int r)]) (st' := [.int r, .int t, .ref 6]) (I' := I) (J' := J) rfl ?_
  refine EV_iast (j := (tq_N t)) C (by decide +kernel) rfl (by unfold tq_N; omega) (by unfold tq_N; omega) ?_
  refine EV_blk (own := 6) C rfl [(.aload_n 0, 0, 0, 0, 0), (.getfield 15, 6, 1, 143, 0), (.iload_n 2, 0, 0, 0, 0), (.iload_n 1, 0, 0, 0, 0)] (pc' := 13) (by decide +kernel) (lv' := [some (.ref 5), some (.int t), some (.int r)]) (st' := [.int t, .int r, .ref 7]) (I' := (tq_u I 6 (tq_N t) r)) (J' := J) rfl ?_
  refine EV_iast (j := (tq_N r)) C (by decide +kernel) rfl (by unfold tq_N; omega) (by unfold tq_N; omega) ?_
  exact EV_vret C hZ rfl (by decide +kernel) (Nat.le_refl _) (Nat.le_refl _) ⟨rfl, rfl, rfl, by simp only [I_X6_place], rfl⟩
theorem fr_X6_place (I : tq_I) (t r : Int32) {cz : Nat} (hc : cz ≠ 6 ∧ cz ≠ 7) (jz : Nat) : I_X6_place I t r cz jz = I cz jz := by
  obtain ⟨hc0, hc1⟩ := hc
  simp only [I_X6_place]
  (repeat' split) <;> simp (disch := first | assumption | (simp only [ne_eq] at *; simp [*])) [tq_u, tq_cp, hc0, hc1, fr_tb1, fr_tb2, fr_X8_touchBlock, fr_X8_touchAll, fr_X8_changeCorner, fr_X8_changePath, fr_cb1, fr_cb2, fr_X8_changeBlock, fr_wipe1, fr_X1_wipe, fr_sm1, fr_sm2, fr_X8_startMap]
def tq_le5 (f : Nat → Int32) : Prop := ∀ k, k < 6 → 0 ≤ (f k).toInt ∧ (f k).toInt ≤ 5
theorem tq_le5_place {I : tq_I} {t r : Int32} (h : tq_le5 (I 7)) (h0 : 0 ≤ t.toInt) (h5 : t.toInt ≤ 5) : tq_le5 (I_X6_place I t r 7) := by
  intro k hk
  simp only [I_X6_place, tq_u]
  by_cases hkr : k = tq_N r
  · simp [hkr]; exact ⟨h0, h5⟩
  · simp [hkr]; exact h k hk
def f_mt1 (t r f : Nat) (i : Nat) (a : tq_I) : tq_I := (I_X6_place a (a 7 ((f + i) + 1)) (nI (f + i)))
set_option maxRecDepth 20000 in
theorem lp_mt1 {g : tq_G} {rest : List tq_S} {x0 : tq_X} (C : tq_C g mX6_moveTo x0) (hR : tq_ht x0 1 0 0) (J : Int64) (t r f : Nat) (hf5 : f ≤ 5) (hr5 : r ≤ 5) : ∀ (n i : Nat) (a : tq_I), i + n = r - f → tq_le5 (a 7) → EV g mX6_moveTo x0 0 0 37 [some (.ref 5), some (.int (nI t)), some (.int (nI r)), some (.int (nI f)), some (.int (nI (f + (i + n))))] [] (tq_SC ++ rest) tq_RR (tq_it (f_mt1 t r f) n i a) J → EV g mX6_moveTo x0 0 0 10 [some (.ref 5), some (.int (nI t)), some (.int (nI r)), some (.int (nI f)), some (.int (nI (f + i)))] [] (tq_SC ++ rest) tq_RR a J := by
  intro n
  induction n with
  | zero =>
    intro i a hi hI kk
    rw [Nat.add_zero] at kk
    refine EV_blk (own := 6) C rfl [(.iload 4, 0, 0, 0, 0), (.iload_n 2, 0, 0, 0, 0)] (pc' := 13) (by decide +kernel) (lv' := [some (.ref 5), some (.int (nI t)), some (.int (nI r)), some (.int (nI f)), some (.int (nI (f + i)))]) (st' := [.int (nI r), .int (nI (f + i))]) (I' := a) (J' := J) rfl ?_
    refine EV_icmp_ge (off := 24) (tgt := 37) C (by decide +kernel) (by decide) (fun h1 => ?_) (fun h1 => ?_)
    · skip
      exact kk
    · skip
      exact absurd h1 (by simp (disch := omega) only [Int32.lt_iff_toInt_lt, Int32.le_iff_toInt_le, Int32.toInt_zero, nI_toInt, tq_m1]; omega)
  | succ n ih =>
    intro i a hi hI kk
    rw [show i + (n + 1) = (i + 1) + n by omega] at kk
    refine EV_blk (own := 6) C rfl [(.iload 4, 0, 0, 0, 0), (.iload_n 2, 0, 0, 0, 0)] (pc' := 13) (by decide +kernel) (lv' := [some (.ref 5), some (.int (nI t)), some (.int (nI r)), some (.int (nI f)), some (.int (nI (f + i)))]) (st' := [.int (nI r), .int (nI (f + i))]) (I' := a) (J' := J) rfl ?_
    refine EV_icmp_ge (off := 24) (tgt := 37) C (by decide +kernel) (by decide) (fun h1 => ?_) (fun h1 => ?_)
    · skip
      exact absurd h1 (by simp (disch := omega) only [Int32.lt_iff_toInt_lt, Int32.le_iff_toInt_le, Int32.toInt_zero, nI_toInt, tq_m1]; omega)
    · skip
      refine EV_blk (own := 6) C rfl [(.aload_n 0, 0, 0, 0, 0), (.aload_n 0, 0, 0, 0, 0), (.getfield 15, 6, 1, 143, 0), (.iload 4, 0, 0, 0, 0), (.iconst 1, 0, 0, 0, (nI 1)), (.iadd, 0, 0, 0, 0)] (pc' := 25) (by decide +kernel) (lv' := [some (.ref 5), some (.int (nI t)), some (.int (nI r)), some (.int (nI f)), some (.int (nI (f + i)))]) (st' := [.int ((nI (f + i)) + (nI 1)), .ref 7, .ref 5]) (I' := a) (J' := J) rfl ?_
      refine EV_iald (j := ((f + i) + 1)) C (by decide +kernel) rfl (tq_toI ((f + i) + 1) (by simp (disch := omega) only [nI_add, tq_mul, tq_rem_nI, tq_div_nI, tq_sub_nI]) (by omega)) (by omega) ?_
      refine EV_blk (own := 6) C rfl [(.iload 4, 0, 0, 0, 0)] (pc' := 28) (by decide +kernel) (lv' := [some (.ref 5), some (.int (nI t)), some (.int (nI r)), some (.int (nI f)), some (.int (nI (f + i)))]) (st' := [.int (nI (f + i)), .int (a 7 ((f + i) + 1)), .ref 5]) (I' := a) (J' := J) rfl ?_
      have hb := hI (f + i + 1) (by omega)
      have hq := nI_toInt (n := f + i) (by omega)
      refine EV_cV (own := 6) (idx := 28) (μ' := mX6_place) (b := 5) (cb := 6) (av := [.int (a 7 ((f + i) + 1)), .int (nI (f + i))]) (rest := []) C hR rfl (Or.inl ⟨138, by decide⟩) kX6_place sX6_place (c_X6_place g rest a J (a 7 ((f + i) + 1)) (nI (f + i)) hb.1 hb.2 (by omega) (by omega)) rfl rfl (by decide +kernel) rfl (by decide) (Nat.le_of_ble_eq_true rfl) rfl ⟨Nat.zero_le _, Nat.zero_le _⟩ ?_
      refine EV_blk (own := 6) C rfl [(.iinc 4 1, 0, 0, 0, (nI 1)), (.goto (-24), 0, 0, 0, 0)] (pc' := 10) (by decide +kernel) (lv' := [some (.ref 5), some (.int (nI t)), some (.int (nI r)), some (.int (nI f)), some (.int ((nI (f + i)) + (nI 1)))]) (st' := []) (I' := (I_X6_place a (a 7 ((f + i) + 1)) (nI (f + i)))) (J' := J) rfl ?_
      rw [show ((nI (f + i)) + (nI 1)) = (nI (f + (i + 1))) from by simp (disch := omega) only [nI_add, tq_mul] <;> exact congrArg nI (by omega)]
      rw [tq_its, show (f_mt1 t r f) i a = (I_X6_place a (a 7 ((f + i) + 1)) (nI (f + i))) from by simp only [f_mt1, if_neg h1]] at kk
      exact ih (i + 1) (I_X6_place a (a 7 ((f + i) + 1)) (nI (f + i))) (by omega) (tq_le5_place hI hb.1 hb.2) kk
theorem fr_mt1 (t r f : Nat) {cz : Nat} (hc : cz ≠ 6 ∧ cz ≠ 7) (n i : Nat) (a : tq_I) (jz : Nat) : (tq_it (f_mt1 t r f) n i a) cz jz = a cz jz := by
  obtain ⟨hc0, hc1⟩ := hc
  refine tq_itF (fun i a j => ?_) n i a jz
  simp only [f_mt1]
  (repeat' split) <;> simp (disch := first | assumption | (simp only [ne_eq] at *; simp [*])) [tq_u, tq_cp, hc0, hc1, fr_tb1, fr_tb2, fr_X8_touchBlock, fr_X8_touchAll, fr_X8_changeCorner, fr_X8_changePath, fr_cb1, fr_cb2, fr_X8_changeBlock, fr_wipe1, fr_X1_wipe, fr_sm1, fr_sm2, fr_X8_startMap, fr_X6_place]
def f_mt2 (t r f : Nat) (i : Nat) (a : tq_I) : tq_I := (I_X6_place a (a 7 ((f - i) - 1)) (nI (f - i)))
set_option maxRecDepth 20000 in
theorem lp_mt2 {g : tq_G} {rest : List tq_S} {x0 : tq_X} (C : tq_C g mX6_moveTo x0) (hR : tq_ht x0 1 0 0) (J : Int64) (t r f : Nat) (hf5 : f ≤ 5) (hr5 : r ≤ 5) : ∀ (n i : Nat) (a : tq_I), i + n = f - r → tq_le5 (a 7) → EV g mX6_moveTo x0 0 0 67 [some (.ref 5), some (.int (nI t)), some (.int (nI r)), some (.int (nI f)), some (.int (nI (f - (i + n))))] [] (tq_SC ++ rest) tq_RR (tq_it (f_mt2 t r f) n i a) J → EV g mX6_moveTo x0 0 0 40 [some (.ref 5), some (.int (nI t)), some (.int (nI r)), some (.int (nI f)), some (.int (nI (f - i)))] [] (tq_SC ++ rest) tq_RR a J := by
  intro n
  induction n with
  | zero =>
    intro i a hi hI kk
    rw [Nat.add_zero] at kk
    refine EV_blk (own := 6) C rfl [(.iload 4, 0, 0, 0, 0), (.iload_n 2, 0, 0, 0, 0)] (pc' := 43) (by decide +kernel) (lv' := [some (.ref 5), some (.int (nI t)), some (.int (nI r)), some (.int (nI f)), some (.int (nI (f - i)))]) (st' := [.int (nI r), .int (nI (f - i))]) (I' := a) (J' := J) rfl ?_
    refine EV_icmp_le (off := 24) (tgt := 67) C (by decide +kernel) (by decide) (fun h1 => ?_) (fun h1 => ?_)
    · skip
      exact kk
    · skip
      exact absurd h1 (by simp (disch := omega) only [Int32.lt_iff_toInt_lt, Int32.le_iff_toInt_le, Int32.toInt_zero, nI_toInt, tq_m1]; omega)
  | succ n ih =>
    intro i a hi hI kk
    rw [show i + (n + 1) = (i + 1) + n by omega] at kk
    refine EV_blk (own := 6) C rfl [(.iload 4, 0, 0, 0, 0), (.iload_n 2, 0, 0, 0, 0)] (pc' := 43) (by decide +kernel) (lv' := [some (.ref 5), some (.int (nI t)), some (.int (nI r)), some (.int (nI f)), some (.int (nI (f - i)))]) (st' := [.int (nI r), .int (nI (f - i))]) (I' := a) (J' := J) rfl ?_
    refine EV_icmp_le (off := 24) (tgt := 67) C (by decide +kernel) (by decide) (fun h1 => ?_) (fun h1 => ?_)
    · skip
      exact absurd h1 (by simp (disch := omega) only [Int32.lt_iff_toInt_lt, Int32.le_iff_toInt_le, Int32.toInt_zero, nI_toInt, tq_m1]; omega)
    · skip
      refine EV_blk (own := 6) C rfl [(.aload_n 0, 0, 0, 0, 0), (.aload_n 0, 0, 0, 0, 0), (.getfield 15, 6, 1, 143, 0), (.iload 4, 0, 0, 0, 0), (.iconst 1, 0, 0, 0, (nI 1)), (.isub, 0, 0, 0, 0)] (pc' := 55) (by decide +kernel) (lv' := [some (.ref 5), some (.int (nI t)), some (.int (nI r)), some (.int (nI f)), some (.int (nI (f - i)))]) (st' := [.int ((nI (f - i)) - (nI 1)), .ref 7, .ref 5]) (I' := a) (J' := J) rfl ?_
      refine EV_iald (j := ((f - i) - 1)) C (by decide +kernel) rfl (tq_toI ((f - i) - 1) (by simp (disch := omega) only [nI_add, tq_mul, tq_rem_nI, tq_div_nI, tq_sub_nI]) (by omega)) (by omega) ?_
      refine EV_blk (own := 6) C rfl [(.iload 4, 0, 0, 0, 0)] (pc' := 58) (by decide +kernel) (lv' := [some (.ref 5), some (.int (nI t)), some (.int (nI r)), some (.int (nI f)), some (.int (nI (f - i)))]) (st' := [.int (nI (f - i)), .int (a 7 ((f - i) - 1)), .ref 5]) (I' := a) (J' := J) rfl ?_
      have hb := hI (f - i - 1) (by omega)
      have hq := nI_toInt (n := f - i) (by omega)
      refine EV_cV (own := 6) (idx := 28) (μ' := mX6_place) (b := 5) (cb := 6) (av := [.int (a 7 ((f - i) - 1)), .int (nI (f - i))]) (rest := []) C hR rfl (Or.inl ⟨138, by decide⟩) kX6_place sX6_place (c_X6_place g rest a J (a 7 ((f - i) - 1)) (nI (f - i)) hb.1 hb.2 (by omega) (by omega)) rfl rfl (by decide +kernel) rfl (by decide) (Nat.le_of_ble_eq_true rfl) rfl ⟨Nat.zero_le _, Nat.zero_le _⟩ ?_
      refine EV_blk (own := 6) C rfl [(.iinc 4 (-1), 0, 0, 0, (-1)), (.goto (-24), 0, 0, 0, 0)] (pc' := 40) (by decide +kernel) (lv' := [some (.ref 5), some (.int (nI t)), some (.int (nI r)), some (.int (nI f)), some (.int ((nI (f - i)) + (-1)))]) (st' := []) (I' := (I_X6_place a (a 7 ((f - i) - 1)) (nI (f - i)))) (J' := J) rfl ?_
      rw [show ((nI (f - i)) + (-1)) = (nI (f - (i + 1))) from by rw [tq_dn (by omega)] <;> exact congrArg nI (by omega)]
      rw [tq_its, show (f_mt2 t r f) i a = (I_X6_place a (a 7 ((f - i) - 1)) (nI (f - i))) from by simp only [f_mt2, if_neg h1]] at kk
      exact ih (i + 1) (I_X6_place a (a 7 ((f - i) - 1)) (nI (f - i))) (by omega) (tq_le5_place hI hb.1 hb.2) kk
theorem fr_mt2 (t r f : Nat) {cz : Nat} (hc : cz ≠ 6 ∧ cz ≠ 7) (n i : Nat) (a : tq_I) (jz : Nat) : (tq_it (f_mt2 t r f) n i a) cz jz = a cz jz := by
  obtain ⟨hc0, hc1⟩ := hc
  refine tq_itF (fun i a j => ?_) n i a jz
  simp only [f_mt2]
  (repeat' split) <;> simp (disch := first | assumption | (simp only [ne_eq] at *; simp [*])) [tq_u, tq_cp, hc0, hc1, fr_tb1, fr_tb2, fr_X8_touchBlock, fr_X8_touchAll, fr_X8_changeCorner, fr_X8_changePath, fr_cb1, fr_cb2, fr_X8_changeBlock, fr_wipe1, fr_X1_wipe, fr_sm1, fr_sm2, fr_X8_startMap, fr_X6_place, fr_mt1]
theorem tq_le5_mt1 {t r f : Nat} (hf5 : f ≤ 5) (hr5 : r ≤ 5) : ∀ (n i : Nat) (a : tq_I), i + n = r - f → tq_le5 (a 7) → tq_le5 (tq_it (f_mt1 t r f) n i a 7)
  | 0, _, _, _, h => h
  | n + 1, i, a, hi, h => tq_le5_mt1 hf5 hr5 n (i + 1) _ (by omega) (tq_le5_place h (h _ (by omega)).1 (h _ (by omega)).2)
def I_X6_moveTo (I : tq_I) (t r f : Nat) : tq_I := (I_X6_place (tq_it (f_mt2 t r f) (f - r) 0 (tq_it (f_mt1 t r f) (r - f) 0 I)) (nI t) (nI r))
set_option maxRecDepth 20000 in
theorem c_X6_moveTo (g : tq_G) (rest : List tq_S) (I : tq_I) (J : Int64) (t r f : Nat) (ht : t ≤ 5) (hr5 : r ≤ 5) (hf5 : f ≤ 5) (hf : I 6 t = nI f) (h7 : tq_le5 (I 7)) : CT g mX6_moveTo 1 0 0 [.ref 5, .int (nI t), .int (nI r)] (tq_SC ++ rest) tq_RR I J (tq_ret (tq_SC ++ rest) tq_RR none (I_X6_moveTo I t r f) J) := by
  refine CT.ret kX6_moveTo (Nat.le_of_ble_eq_true rfl) (fun x0 C hR hZ => ?_)
  refine EV_en (lv' := [some (.ref 5), some (.int (nI t)), some (.int (nI r)), none, none]) 2 rfl ?_
  refine EV_blk (own := 6) C rfl [(.aload_n 0, 0, 0, 0, 0), (.getfield 9, 6, 0, 142, 0), (.iload_n 1, 0, 0, 0, 0)] (pc' := 5) (by decide +kernel) (lv' := [some (.ref 5), some (.int (nI t)), some (.int (nI r)), none, none]) (st' := [.int (nI t), .ref 6]) (I' := I) (J' := J) rfl ?_
  refine EV_iald (j := t) C (by decide +kernel) rfl (nI_toInt (by omega)) (by omega) ?_
  refine EV_blk (own := 6) C rfl [(.istore_n 3, 0, 0, 0, 0), (.iload_n 3, 0, 0, 0, 0), (.istore 4, 0, 0, 0, 0)] (pc' := 10) (by decide +kernel) (lv' := [some (.ref 5), some (.int (nI t)), some (.int (nI r)), some (.int (I 6 t)), some (.int (I 6 t))]) (st' := []) (I' := I) (J' := J) rfl ?_
  rw [hf]
  refine lp_mt1 C hR J t r f hf5 hr5 (r - f) 0 I (by omega) h7 ?_
  refine EV_blk (own := 6) C rfl [(.iload_n 3, 0, 0, 0, 0), (.istore 4, 0, 0, 0, 0)] (pc' := 40) (by decide +kernel) (lv' := [some (.ref 5), some (.int (nI t)), some (.int (nI r)), some (.int (nI f)), some (.int (nI f))]) (st' := []) (I' := (tq_it (f_mt1 t r f) (r - f) 0 I)) (J' := J) rfl ?_
  refine lp_mt2 C hR J t r f hf5 hr5 (f - r) 0 (tq_it (f_mt1 t r f) (r - f) 0 I) (by omega) (tq_le5_mt1 hf5 hr5 _ _ _ (by omega) h7) ?_
  refine EV_blk (own := 6) C rfl [(.aload_n 0, 0, 0, 0, 0), (.iload_n 1, 0, 0, 0, 0), (.iload_n 2, 0, 0, 0, 0)] (pc' := 70) (by decide +kernel) (lv' := [some (.ref 5), some (.int (nI t)), some (.int (nI r)), some (.int (nI f)), some (.int (nI (f - (0 + (f - r)))))]) (st' := [.int (nI r), .int (nI t), .ref 5]) (I' := (tq_it (f_mt2 t r f) (f - r) 0 (tq_it (f_mt1 t r f) (r - f) 0 I))) (J' := J) rfl ?_
  refine EV_cV (own := 6) (idx := 28) (μ' := mX6_place) (b := 5) (cb := 6) (av := [.int (nI t), .int (nI r)]) (rest := []) C hR rfl (Or.inl ⟨138, by decide⟩) kX6_place sX6_place (c_X6_place g rest (tq_it (f_mt2 t r f) (f - r) 0 (tq_it (f_mt1 t r f) (r - f) 0 I)) J (nI t) (nI r) (by rw [nI_toInt (by omega)]; omega) (by rw [nI_toInt (by omega)]; omega) (by rw [nI_toInt (by omega)]; omega) (by rw [nI_toInt (by omega)]; omega)) rfl rfl (by decide +kernel) rfl (by decide) (Nat.le_of_ble_eq_true rfl) rfl ⟨Nat.zero_le _, Nat.zero_le _⟩ ?_
  exact EV_vret C hZ rfl (by decide +kernel) (Nat.le_refl _) (Nat.le_refl _) ⟨rfl, rfl, rfl, by simp only [I_X6_moveTo], rfl⟩
theorem fr_X6_moveTo (I : tq_I) (t r f : Nat) {cz : Nat} (hc : cz ≠ 6 ∧ cz ≠ 7) (jz : Nat) : I_X6_moveTo I t r f cz jz = I cz jz := by
  obtain ⟨hc0, hc1⟩ := hc
  simp only [I_X6_moveTo]
  (repeat' split) <;> simp (disch := first | assumption | (simp only [ne_eq] at *; simp [*])) [tq_u, tq_cp, hc0, hc1, fr_tb1, fr_tb2, fr_X8_touchBlock, fr_X8_touchAll, fr_X8_changeCorner, fr_X8_changePath, fr_cb1, fr_cb2, fr_X8_changeBlock, fr_wipe1, fr_X1_wipe, fr_sm1, fr_sm2, fr_X8_startMap, fr_X6_place, fr_mt1, fr_mt2]
def r_X6_variantOf (I : tq_I) (t x y : Nat) : Int32 := (if (nI 1) < (I 8 t) then (tq_rem (tq_ush ((((((nI 31) * (((nI 31) * (((nI 31) * (I 5 4)) + (nI x))) + (nI y))) + (nI t)) ^^^ (tq_ush (((nI 31) * (((nI 31) * (((nI 31) * (I 5 4)) + (nI x))) + (nI y))) + (nI t)) (nI 15))) * (nI 739982445)) ^^^ (tq_ush (((((nI 31) * (((nI 31) * (((nI 31) * (I 5 4)) + (nI x))) + (nI y))) + (nI t)) ^^^ (tq_ush (((nI 31) * (((nI 31) * (((nI 31) * (I 5 4)) + (nI x))) + (nI y))) + (nI t)) (nI 15))) * (nI 739982445)) (nI 12))) (nI 1)) (I 8 t)) else (nI 0))
set_option maxRecDepth 20000 in
theorem c_X6_variantOf (g : tq_G) (rest : List tq_S) (I : tq_I) (J : Int64) (t x y : Nat) (ht : t ≤ 5) : CT g mX6_variantOf 0 0 0 [.ref 5, .int (nI t), .int (nI x), .int (nI y)] (tq_SC ++ rest) tq_RR I J (tq_ret (tq_SC ++ rest) tq_RR (some (.int (r_X6_variantOf I t x y))) I J) := by
  refine CT.ret kX6_variantOf (Nat.le_of_ble_eq_true rfl) (fun x0 C hR hZ => ?_)
  refine EV_en (lv' := [some (.ref 5), some (.int (nI t)), some (.int (nI x)), some (.int (nI y)), none, none]) 2 rfl ?_
  refine EV_blk (own := 6) C rfl [(.aload_n 0, 0, 0, 0, 0), (.getfield 18, 6, 2, 144, 0), (.iload_n 1, 0, 0, 0, 0)] (pc' := 5) (by decide +kernel) (lv' := [some (.ref 5), some (.int (nI t)), some (.int (nI x)), some (.int (nI y)), none, none]) (st' := [.int (nI t), .ref 8]) (I' := I) (J' := J) rfl ?_
  refine EV_iald (j := t) C (by decide +kernel) rfl (nI_toInt (by omega)) (by omega) ?_
  refine EV_blk (own := 6) C rfl [(.istore 4, 0, 0, 0, 0), (.iload 4, 0, 0, 0, 0), (.iconst 1, 0, 0, 0, (nI 1))] (pc' := 11) (by decide +kernel) (lv' := [some (.ref 5), some (.int (nI t)), some (.int (nI x)), some (.int (nI y)), some (.int (I 8 t)), none]) (st' := [.int (nI 1), .int (I 8 t)]) (I' := I) (J' := J) rfl ?_
  refine EV_icmp_gt (off := 5) (tgt := 16) C (by decide +kernel) (by decide) (fun h1 => ?_) (fun h1 => ?_)
  · skip
    refine EV_blk (own := 6) C rfl [(.bipush 31, 0, 0, 0, (nI 31)), (.bipush 31, 0, 0, 0, (nI 31)), (.bipush 31, 0, 0, 0, (nI 31)), (.aload_n 0, 0, 0, 0, 0), (.getfield 42, 6, 4, 149, 0), (.imul, 0, 0, 0, 0), (.iload_n 2, 0, 0, 0, 0), (.iadd, 0, 0, 0, 0), (.imul, 0, 0, 0, 0), (.iload_n 3, 0, 0, 0, 0), (.iadd, 0, 0, 0, 0), (.imul, 0, 0, 0, 0), (.iload_n 1, 0, 0, 0, 0), (.iadd, 0, 0, 0, 0), (.istore 5, 0, 0, 0, 0), (.iload 5, 0, 0, 0, 0), (.iload 5, 0, 0, 0, 0), (.bipush 15, 0, 0, 0, (nI 15)), (.iushr, 0, 0, 0, 0), (.ixor, 0, 0, 0, 0), (.ldc 50, 0, 0, 695, (nI 739982445)), (.imul, 0, 0, 0, 0), (.istore 5, 0, 0, 0, 0), (.iload 5, 0, 0, 0, 0), (.iload 5, 0, 0, 0, 0), (.bipush 12, 0, 0, 0, (nI 12)), (.iushr, 0, 0, 0, 0), (.ixor, 0, 0, 0, 0), (.iconst 1, 0, 0, 0, (nI 1)), (.iushr, 0, 0, 0, 0), (.iload 4, 0, 0, 0, 0)] (pc' := 62) (by decide +kernel) (lv' := [some (.ref 5), some (.int (nI t)), some (.int (nI x)), some (.int (nI y)), some (.int (I 8 t)), some (.int (((((nI 31) * (((nI 31) * (((nI 31) * (I 5 4)) + (nI x))) + (nI y))) + (nI t)) ^^^ (tq_ush (((nI 31) * (((nI 31) * (((nI 31) * (I 5 4)) + (nI x))) + (nI y))) + (nI t)) (nI 15))) * (nI 739982445)))]) (st' := [.int (I 8 t), .int (tq_ush ((((((nI 31) * (((nI 31) * (((nI 31) * (I 5 4)) + (nI x))) + (nI y))) + (nI t)) ^^^ (tq_ush (((nI 31) * (((nI 31) * (((nI 31) * (I 5 4)) + (nI x))) + (nI y))) + (nI t)) (nI 15))) * (nI 739982445)) ^^^ (tq_ush (((((nI 31) * (((nI 31) * (((nI 31) * (I 5 4)) + (nI x))) + (nI y))) + (nI t)) ^^^ (tq_ush (((nI 31) * (((nI 31) * (((nI 31) * (I 5 4)) + (nI x))) + (nI y))) + (nI t)) (nI 15))) * (nI 739982445)) (nI 12))) (nI 1))]) (I' := I) (J' := J) rfl ?_
    refine EV_irem C (by decide +kernel) (by intro e; rw [e] at h1; exact absurd h1 (by decide)) ?_
    exact EV_iret C hZ rfl (by decide +kernel) (Nat.le_refl _) (Nat.le_refl _) ⟨tq_some (by simp only [r_X6_variantOf, if_pos h1]), rfl, rfl, rfl, rfl⟩
  · skip
    refine EV_blk (own := 6) C rfl [(.iconst 0, 0, 0, 0, (nI 0))] (pc' := 15) (by decide +kernel) (lv' := [some (.ref 5), some (.int (nI t)), some (.int (nI x)), some (.int (nI y)), some (.int (I 8 t)), none]) (st' := [.int (nI 0)]) (I' := I) (J' := J) rfl ?_
    exact EV_iret C hZ rfl (by decide +kernel) (Nat.le_refl _) (Nat.le_refl _) ⟨tq_some (by simp only [r_X6_variantOf, if_neg h1]), rfl, rfl, rfl, rfl⟩
set_option maxRecDepth 20000 in
theorem c_X10_has (g : tq_G) (rest : List tq_S) (I : tq_I) (J : Int64) (s m : Int32)  : CT g mX10_has 0 0 0 [.int s, .int m] (tq_SC ++ rest) tq_RR I J (tq_ret (tq_SC ++ rest) tq_RR (some (.int (tq_b (((s >>> (m &&& 31)) &&& (nI 1)) = (nI 1))))) I J) := by
  refine CT.ret kX10_has (Nat.le_of_ble_eq_true rfl) (fun x0 C hR hZ => ?_)
  refine EV_en (lv' := [some (.int s), some (.int m)]) 0 rfl ?_
  refine EV_blk (own := 10) C rfl [(.iload_n 0, 0, 0, 0, 0), (.iload_n 1, 0, 0, 0, 0), (.ishr, 0, 0, 0, 0), (.iconst 1, 0, 0, 0, (nI 1)), (.iand, 0, 0, 0, 0), (.iconst 1, 0, 0, 0, (nI 1))] (pc' := 6) (by decide +kernel) (lv' := [some (.int s), some (.int m)]) (st' := [.int (nI 1), .int ((s >>> (m &&& 31)) &&& (nI 1))]) (I' := I) (J' := J) rfl ?_
  refine EV_icmp_ne (off := 7) (tgt := 13) C (by decide +kernel) (by decide) (fun h1 => ?_) (fun h1 => ?_)
  · skip
    refine EV_blk (own := 10) C rfl [(.iconst 0, 0, 0, 0, (nI 0))] (pc' := 14) (by decide +kernel) (lv' := [some (.int s), some (.int m)]) (st' := [.int (nI 0)]) (I' := I) (J' := J) rfl ?_
    exact EV_zret C hZ rfl (by decide) (by decide +kernel) (Nat.le_refl _) (Nat.le_refl _) ⟨tq_r0 h1, rfl, rfl, rfl, rfl⟩
  · skip
    refine EV_blk (own := 10) C rfl [(.iconst 1, 0, 0, 0, (nI 1)), (.goto 4, 0, 0, 0, 0)] (pc' := 14) (by decide +kernel) (lv' := [some (.int s), some (.int m)]) (st' := [.int (nI 1)]) (I' := I) (J' := J) rfl ?_
    exact EV_zret C hZ rfl (by decide) (by decide +kernel) (Nat.le_refl _) (Nat.le_refl _) ⟨tq_r1 h1, rfl, rfl, rfl, rfl⟩
def r_X10_flip (m t : Int32) : Int32 := (if (t &&& (nI 1)) = 0 then (if (t &&& (nI 2)) = 0 then m else (((m &&& (nI 3)) <<< ((nI 2) &&& 31)) ||| ((m &&& (nI 12)) >>> ((nI 2) &&& 31)))) else (if (t &&& (nI 2)) = 0 then (((m &&& (nI 5)) <<< ((nI 1) &&& 31)) ||| ((m &&& (nI 10)) >>> ((nI 1) &&& 31))) else ((((((m &&& (nI 5)) <<< ((nI 1) &&& 31)) ||| ((m &&& (nI 10)) >>> ((nI 1) &&& 31))) &&& (nI 3)) <<< ((nI 2) &&& 31)) ||| (((((m &&& (nI 5)) <<< ((nI 1) &&& 31)) ||| ((m &&& (nI 10)) >>> ((nI 1) &&& 31))) &&& (nI 12)) >>> ((nI 2) &&& 31)))))
set_option maxRecDepth 20000 in
theorem c_X10_flip (g : tq_G) (rest : List tq_S) (I : tq_I) (J : Int64) (m t : Int32)  : CT g mX10_flip 0 0 0 [.int m, .int t] (tq_SC ++ rest) tq_RR I J (tq_ret (tq_SC ++ rest) tq_RR (some (.int (r_X10_flip m t))) I J) := by
  refine CT.ret kX10_flip (Nat.le_of_ble_eq_true rfl) (fun x0 C hR hZ => ?_)
  refine EV_en (lv' := [some (.int m), some (.int t), none]) 1 rfl ?_
  refine EV_blk (own := 10) C rfl [(.iload_n 0, 0, 0, 0, 0), (.istore_n 2, 0, 0, 0, 0), (.iload_n 1, 0, 0, 0, 0), (.iconst 1, 0, 0, 0, (nI 1)), (.iand, 0, 0, 0, 0)] (pc' := 5) (by decide +kernel) (lv' := [some (.int m), some (.int t), some (.int m)]) (st' := [.int (t &&& (nI 1))]) (I' := I) (J' := J) rfl ?_
  refine EV_if_eq (off := 16) (tgt := 21) C (by decide +kernel) (by decide) (fun h1 => ?_) (fun h1 => ?_)
  · skip
    refine EV_blk (own := 10) C rfl [(.iload_n 1, 0, 0, 0, 0), (.iconst 2, 0, 0, 0, (nI 2)), (.iand, 0, 0, 0, 0)] (pc' := 24) (by decide +kernel) (lv' := [some (.int m), some (.int t), some (.int m)]) (st' := [.int (t &&& (nI 2))]) (I' := I) (J' := J) rfl ?_
    refine EV_if_eq (off := 16) (tgt := 40) C (by decide +kernel) (by decide) (fun h2 => ?_) (fun h2 => ?_)
    · skip
      refine EV_blk (own := 10) C rfl [(.iload_n 2, 0, 0, 0, 0)] (pc' := 41) (by decide +kernel) (lv' := [some (.int m), some (.int t), some (.int m)]) (st' := [.int m]) (I' := I) (J' := J) rfl ?_
      exact EV_iret C hZ rfl (by decide +kernel) (Nat.le_refl _) (Nat.le_refl _) ⟨tq_some (by simp only [r_X10_flip, if_pos h1, if_pos h2]), rfl, rfl, rfl, rfl⟩
    · skip
      refine EV_blk (own := 10) C rfl [(.iload_n 2, 0, 0, 0, 0), (.iconst 3, 0, 0, 0, (nI 3)), (.iand, 0, 0, 0, 0), (.iconst 2, 0, 0, 0, (nI 2)), (.ishl, 0, 0, 0, 0), (.iload_n 2, 0, 0, 0, 0), (.bipush 12, 0, 0, 0, (nI 12)), (.iand, 0, 0, 0, 0), (.iconst 2, 0, 0, 0, (nI 2)), (.ishr, 0, 0, 0, 0), (.ior, 0, 0, 0, 0), (.istore_n 2, 0, 0, 0, 0), (.iload_n 2, 0, 0, 0, 0)] (pc' := 41) (by decide +kernel) (lv' := [some (.int m), some (.int t), some (.int (((m &&& (nI 3)) <<< ((nI 2) &&& 31)) ||| ((m &&& (nI 12)) >>> ((nI 2) &&& 31))))]) (st' := [.int (((m &&& (nI 3)) <<< ((nI 2) &&& 31)) ||| ((m &&& (nI 12)) >>> ((nI 2) &&& 31)))]) (I' := I) (J' := J) rfl ?_
      exact EV_iret C hZ rfl (by decide +kernel) (Nat.le_refl _) (Nat.le_refl _) ⟨tq_some (by simp only [r_X10_flip, if_pos h1, if_neg h2]), rfl, rfl, rfl, rfl⟩
  · skip
    refine EV_blk (own := 10) C rfl [(.iload_n 2, 0, 0, 0, 0), (.iconst 5, 0, 0, 0, (nI 5)), (.iand, 0, 0, 0, 0), (.iconst 1, 0, 0, 0, (nI 1)), (.ishl, 0, 0, 0, 0), (.iload_n 2, 0, 0, 0, 0), (.bipush 10, 0, 0, 0, (nI 10)), (.iand, 0, 0, 0, 0), (.iconst 1, 0, 0, 0, (nI 1)), (.ishr, 0, 0, 0, 0), (.ior, 0, 0, 0, 0), (.istore_n 2, 0, 0, 0, 0), (.iload_n 1, 0, 0, 0, 0), (.iconst 2, 0, 0, 0, (nI 2)), (.iand, 0, 0, 0, 0)] (pc' := 24) (by decide +kernel) (lv' := [some (.int m), some (.int t), some (.int (((m &&& (nI 5)) <<< ((nI 1) &&& 31)) ||| ((m &&& (nI 10)) >>> ((nI 1) &&& 31))))]) (st' := [.int (t &&& (nI 2))]) (I' := I) (J' := J) rfl ?_
    refine EV_if_eq (off := 16) (tgt := 40) C (by decide +kernel) (by decide) (fun h3 => ?_) (fun h3 => ?_)
    · skip
      refine EV_blk (own := 10) C rfl [(.iload_n 2, 0, 0, 0, 0)] (pc' := 41) (by decide +kernel) (lv' := [some (.int m), some (.int t), some (.int (((m &&& (nI 5)) <<< ((nI 1) &&& 31)) ||| ((m &&& (nI 10)) >>> ((nI 1) &&& 31))))]) (st' := [.int (((m &&& (nI 5)) <<< ((nI 1) &&& 31)) ||| ((m &&& (nI 10)) >>> ((nI 1) &&& 31)))]) (I' := I) (J' := J) rfl ?_
      exact EV_iret C hZ rfl (by decide +kernel) (Nat.le_refl _) (Nat.le_refl _) ⟨tq_some (by simp only [r_X10_flip, if_neg h1, if_pos h3]), rfl, rfl, rfl, rfl⟩
    · skip
      refine EV_blk (own := 10) C rfl [(.iload_n 2, 0, 0, 0, 0), (.iconst 3, 0, 0, 0, (nI 3)), (.iand, 0, 0, 0, 0), (.iconst 2, 0, 0, 0, (nI 2)), (.ishl, 0, 0, 0, 0), (.iload_n 2, 0, 0, 0, 0), (.bipush 12, 0, 0, 0, (nI 12)), (.iand, 0, 0, 0, 0), (.iconst 2, 0, 0, 0, (nI 2)), (.ishr, 0, 0, 0, 0), (.ior, 0, 0, 0, 0), (.istore_n 2, 0, 0, 0, 0), (.iload_n 2, 0, 0, 0, 0)] (pc' := 41) (by decide +kernel) (lv' := [some (.int m), some (.int t), some (.int ((((((m &&& (nI 5)) <<< ((nI 1) &&& 31)) ||| ((m &&& (nI 10)) >>> ((nI 1) &&& 31))) &&& (nI 3)) <<< ((nI 2) &&& 31)) ||| (((((m &&& (nI 5)) <<< ((nI 1) &&& 31)) ||| ((m &&& (nI 10)) >>> ((nI 1) &&& 31))) &&& (nI 12)) >>> ((nI 2) &&& 31))))]) (st' := [.int ((((((m &&& (nI 5)) <<< ((nI 1) &&& 31)) ||| ((m &&& (nI 10)) >>> ((nI 1) &&& 31))) &&& (nI 3)) <<< ((nI 2) &&& 31)) ||| (((((m &&& (nI 5)) <<< ((nI 1) &&& 31)) ||| ((m &&& (nI 10)) >>> ((nI 1) &&& 31))) &&& (nI 12)) >>> ((nI 2) &&& 31)))]) (I' := I) (J' := J) rfl ?_
      exact EV_iret C hZ rfl (by decide +kernel) (Nat.le_refl _) (Nat.le_refl _) ⟨tq_some (by simp only [r_X10_flip, if_neg h1, if_neg h3]), rfl, rfl, rfl, rfl⟩
def f_way1 (I : tq_I) (t m : Nat) (i : Nat) : Option Int32 := (if (tq_b ((((I 10 t) >>> ((r_X10_flip (nI m) (nI i)) &&& 31)) &&& (nI 1)) = (nI 1))) = 0 then none else (some (nI i)))
set_option maxRecDepth 20000 in
theorem lp_way1 {g : tq_G} {rest : List tq_S} {x0 : tq_X} {res : Int32} (I : tq_I) (J : Int64) (C : tq_C g mX10_wayOf x0) (hR : tq_ht x0 1 0 0) (hZ : tq_end g x0 (tq_ret (tq_SC ++ rest) tq_RR (some (.int res)) I J) 0 0) (t m : Nat) (ht : t ≤ 5) : ∀ (n i : Nat), i + n = 4 → res = tq_sr (f_way1 I t m) n i (-1) → (res = (-1) → EV g mX10_wayOf x0 0 0 32 [some (.ref 9), some (.int (nI t)), some (.int (nI m)), none] [] (tq_SC ++ rest) tq_RR I J) → EV g mX10_wayOf x0 0 0 2 [some (.ref 9), some (.int (nI t)), some (.int (nI m)), some (.int (nI i))] [] (tq_SC ++ rest) tq_RR I J := by
  intro n
  induction n with
  | zero =>
    intro i hi hr kk
    refine EV_blk (own := 10) C rfl [(.iload_n 3, 0, 0, 0, 0), (.iconst 4, 0, 0, 0, (nI 4))] (pc' := 4) (by decide +kernel) (lv' := [some (.ref 9), some (.int (nI t)), some (.int (nI m)), some (.int (nI i))]) (st' := [.int (nI 4), .int (nI i)]) (I' := I) (J' := J) rfl ?_
    refine EV_icmp_ge (off := 28) (tgt := 32) C (by decide +kernel) (by decide) (fun h1 => ?_) (fun h1 => ?_)
    · skip
      exact EV_fg (lv' := [some (.ref 9), some (.int (nI t)), some (.int (nI m)), none]) ⟨rfl, rfl, rfl, trivial⟩ (kk hr)
    · skip
      exact absurd h1 (by simp (disch := omega) only [Int32.lt_iff_toInt_lt, Int32.le_iff_toInt_le, Int32.toInt_zero, nI_toInt, tq_m1]; omega)
  | succ n ih =>
    intro i hi hr kk
    refine EV_blk (own := 10) C rfl [(.iload_n 3, 0, 0, 0, 0), (.iconst 4, 0, 0, 0, (nI 4))] (pc' := 4) (by decide +kernel) (lv' := [some (.ref 9), some (.int (nI t)), some (.int (nI m)), some (.int (nI i))]) (st' := [.int (nI 4), .int (nI i)]) (I' := I) (J' := J) rfl ?_
    refine EV_icmp_ge (off := 28) (tgt := 32) C (by decide +kernel) (by decide) (fun h1 => ?_) (fun h1 => ?_)
    · skip
      exact absurd h1 (by simp (disch := omega) only [Int32.lt_iff_toInt_lt, Int32.le_iff_toInt_le, Int32.toInt_zero, nI_toInt, tq_m1]; omega)
    · skip
      refine EV_blk (own := 10) C rfl [(.aload_n 0, 0, 0, 0, 0), (.getfield 9, 10, 0, 131, 0), (.iload_n 1, 0, 0, 0, 0)] (pc' := 12) (by decide +kernel) (lv' := [some (.ref 9), some (.int (nI t)), some (.int (nI m)), some (.int (nI i))]) (st' := [.int (nI t), .ref 10]) (I' := I) (J' := J) rfl ?_
      refine EV_iald (j := t) C (by decide +kernel) rfl (nI_toInt (by omega)) (by omega) ?_
      refine EV_blk (own := 10) C rfl [(.iload_n 2, 0, 0, 0, 0), (.iload_n 3, 0, 0, 0, 0)] (pc' := 15) (by decide +kernel) (lv' := [some (.ref 9), some (.int (nI t)), some (.int (nI m)), some (.int (nI i))]) (st' := [.int (nI i), .int (nI m), .int (I 10 t)]) (I' := I) (J' := J) rfl ?_
      refine EV_cS (own := 10) (idx := 33) (μ' := mX10_flip) (av := [.int (nI m), .int (nI i)]) (rest := [.int (I 10 t)]) C hR rfl (Or.inl ⟨617, by decide⟩) kX10_flip sX10_flip (c_X10_flip g rest I J (nI m) (nI i) ) (by decide +kernel) rfl (by decide) (Nat.le_of_ble_eq_true rfl) rfl ⟨Nat.zero_le _, Nat.zero_le _⟩ ?_
      refine EV_cS (own := 10) (idx := 36) (μ' := mX10_has) (av := [.int (I 10 t), .int (r_X10_flip (nI m) (nI i))]) (rest := []) C hR rfl (Or.inl ⟨620, by decide⟩) kX10_has sX10_has (c_X10_has g rest I J (I 10 t) (r_X10_flip (nI m) (nI i)) ) (by decide +kernel) rfl (by decide) (Nat.le_of_ble_eq_true rfl) rfl ⟨Nat.zero_le _, Nat.zero_le _⟩ ?_
      refine EV_if_eq (off := 5) (tgt := 26) C (by decide +kernel) (by decide) (fun h2 => ?_) (fun h2 => ?_)
      · skip
        refine EV_blk (own := 10) C rfl [(.iinc 3 1, 0, 0, 0, (nI 1)), (.goto (-27), 0, 0, 0, 0)] (pc' := 2) (by decide +kernel) (lv' := [some (.ref 9), some (.int (nI t)), some (.int (nI m)), some (.int ((nI i) + (nI 1)))]) (st' := []) (I' := I) (J' := J) rfl ?_
        rw [show ((nI i) + (nI 1)) = (nI (i + 1)) from by simp (disch := omega) only [nI_add, tq_mul] <;> exact congrArg nI (by omega)]
        exact ih (i + 1) (by omega) (hr.trans (tq_sr_none (show (f_way1 I t m) i = none from by simp only [f_way1, if_neg h1, if_pos h2]))) kk
      · skip
        refine EV_blk (own := 10) C rfl [(.iload_n 3, 0, 0, 0, 0)] (pc' := 25) (by decide +kernel) (lv' := [some (.ref 9), some (.int (nI t)), some (.int (nI m)), some (.int (nI i))]) (st' := [.int (nI i)]) (I' := I) (J' := J) rfl ?_
        exact EV_iret C hZ rfl (by decide +kernel) (Nat.le_refl _) (Nat.le_refl _) ⟨tq_some ((hr.trans (tq_sr_some (show (f_way1 I t m) i = some (nI i) from by simp only [f_way1, if_neg h1, if_neg h2]))).symm), rfl, rfl, rfl, rfl⟩
def r_X10_wayOf (I : tq_I) (t m : Nat) : Int32 := (tq_sr (f_way1 I t m) 4 0 (-1))
set_option maxRecDepth 20000 in
theorem c_X10_wayOf (g : tq_G) (rest : List tq_S) (I : tq_I) (J : Int64) (t m : Nat) (ht : t ≤ 5) : CT g mX10_wayOf 1 0 0 [.ref 9, .int (nI t), .int (nI m)] (tq_SC ++ rest) tq_RR I J (tq_ret (tq_SC ++ rest) tq_RR (some (.int (r_X10_wayOf I t m))) I J) := by
  refine CT.ret kX10_wayOf (Nat.le_of_ble_eq_true rfl) (fun x0 C hR hZ => ?_)
  refine EV_en (lv' := [some (.ref 9), some (.int (nI t)), some (.int (nI m)), none]) 1 rfl ?_
  refine EV_blk (own := 10) C rfl [(.iconst 0, 0, 0, 0, (nI 0)), (.istore_n 3, 0, 0, 0, 0)] (pc' := 2) (by decide +kernel) (lv' := [some (.ref 9), some (.int (nI t)), some (.int (nI m)), some (.int (nI 0))]) (st' := []) (I' := I) (J' := J) rfl ?_
  refine lp_way1 I J C hR hZ t m ht 4 0 (by omega) (by simp only [r_X10_wayOf]) (fun hd => ?_)
  refine EV_blk (own := 10) C rfl [(.iconst (-1), 0, 0, 0, (-1))] (pc' := 33) (by decide +kernel) (lv' := [some (.ref 9), some (.int (nI t)), some (.int (nI m)), none]) (st' := [.int (-1)]) (I' := I) (J' := J) rfl ?_
  exact EV_iret C hZ rfl (by decide +kernel) (Nat.le_refl _) (Nat.le_refl _) ⟨tq_some hd.symm, rfl, rfl, rfl, rfl⟩
def f_fp1 (dr : Int32) (mk least : Nat) (cov : Int32) (i : Nat) : Option Int32 := (if (tq_b (((dr >>> ((nI (least + i)) &&& 31)) &&& (nI 1)) = (nI 1))) = 0 then none else (if ((nI (least + i)) &&& ((nI mk) ^^^ (-1))) = 0 then (if (cov ||| (nI (least + i))) = (nI mk) then (some ((nI 1) <<< ((nI (least + i)) &&& 31))) else none) else none))
set_option maxRecDepth 20000 in
theorem lp_fp1 {g : tq_G} {rest : List tq_S} {x0 : tq_X} {res : Int32} (I : tq_I) (J : Int64) (C : tq_C g mX10_firstParts x0) (hR : tq_ht x0 1 0 0) (hZ : tq_end g x0 (tq_ret (tq_SC ++ rest) tq_RR (some (.int res)) I J) 0 0) (dr : Int32) (mk least : Nat) (cov : Int32) (hmk : mk ≤ 15) (hls : least ≤ mk + 1) : ∀ (n i : Nat), i + n = mk + 1 - least → res = tq_sr (f_fp1 dr mk least cov) n i (nI 0) → (res = (nI 0) → EV g mX10_firstParts x0 0 0 92 [some (.int dr), some (.int (nI mk)), some (.int (nI least)), some (.int cov), some (.int (nI 1)), none, none, none] [] (tq_SC ++ rest) tq_RR I J) → EV g mX10_firstParts x0 0 0 3 [some (.int dr), some (.int (nI mk)), some (.int (nI least)), some (.int cov), some (.int (nI 1)), some (.int (nI (least + i))), none, none] [] (tq_SC ++ rest) tq_RR I J := by
  intro n
  induction n with
  | zero =>
    intro i hi hr kk
    refine EV_blk (own := 10) C rfl [(.iload 5, 0, 0, 0, 0), (.iload_n 1, 0, 0, 0, 0)] (pc' := 6) (by decide +kernel) (lv' := [some (.int dr), some (.int (nI mk)), some (.int (nI least)), some (.int cov), some (.int (nI 1)), some (.int (nI (least + i))), none, none]) (st' := [.int (nI mk), .int (nI (least + i))]) (I' := I) (J' := J) rfl ?_
    refine EV_icmp_gt (off := 86) (tgt := 92) C (by decide +kernel) (by decide) (fun h1 => ?_) (fun h1 => ?_)
    · skip
      exact EV_fg (lv' := [some (.int dr), some (.int (nI mk)), some (.int (nI least)), some (.int cov), some (.int (nI 1)), none, none, none]) ⟨rfl, rfl, rfl, rfl, rfl, trivial⟩ (kk hr)
    · skip
      exact absurd h1 (by simp (disch := omega) only [Int32.lt_iff_toInt_lt, Int32.le_iff_toInt_le, Int32.toInt_zero, nI_toInt, tq_m1]; omega)
  | succ n ih =>
    intro i hi hr kk
    refine EV_blk (own := 10) C rfl [(.iload 5, 0, 0, 0, 0), (.iload_n 1, 0, 0, 0, 0)] (pc' := 6) (by decide +kernel) (lv' := [some (.int dr), some (.int (nI mk)), some (.int (nI least)), some (.int cov), some (.int (nI 1)), some (.int (nI (least + i))), none, none]) (st' := [.int (nI mk), .int (nI (least + i))]) (I' := I) (J' := J) rfl ?_
    refine EV_icmp_gt (off := 86) (tgt := 92) C (by decide +kernel) (by decide) (fun h1 => ?_) (fun h1 => ?_)
    · skip
      exact absurd h1 (by simp (disch := omega) only [Int32.lt_iff_toInt_lt, Int32.le_iff_toInt_le, Int32.toInt_zero, nI_toInt, tq_m1]; omega)
    · skip
      refine EV_blk (own := 10) C rfl [(.iload_n 0, 0, 0, 0, 0), (.iload 5, 0, 0, 0, 0)] (pc' := 12) (by decide +kernel) (lv' := [some (.int dr), some (.int (nI mk)), some (.int (nI least)), some (.int cov), some (.int (nI 1)), some (.int (nI (least + i))), none, none]) (st' := [.int (nI (least + i)), .int dr]) (I' := I) (J' := J) rfl ?_
      refine EV_cS (own := 10) (idx := 36) (μ' := mX10_has) (av := [.int dr, .int (nI (least + i))]) (rest := []) C hR rfl (Or.inl ⟨620, by decide⟩) kX10_has sX10_has (c_X10_has g rest I J dr (nI (least + i)) ) (by decide +kernel) rfl (by decide) (Nat.le_of_ble_eq_true rfl) rfl ⟨Nat.zero_le _, Nat.zero_le _⟩ ?_
      refine EV_if_eq (off := 71) (tgt := 86) C (by decide +kernel) (by decide) (fun h2 => ?_) (fun h2 => ?_)
      · skip
        refine EV_blk (own := 10) C rfl [(.iinc 5 1, 0, 0, 0, (nI 1)), (.goto (-86), 0, 0, 0, 0)] (pc' := 3) (by decide +kernel) (lv' := [some (.int dr), some (.int (nI mk)), some (.int (nI least)), some (.int cov), some (.int (nI 1)), some (.int ((nI (least + i)) + (nI 1))), none, none]) (st' := []) (I' := I) (J' := J) rfl ?_
        rw [show ((nI (least + i)) + (nI 1)) = (nI (least + (i + 1))) from by simp (disch := omega) only [nI_add, tq_mul] <;> exact congrArg nI (by omega)]
        exact ih (i + 1) (by omega) (hr.trans (tq_sr_none (show (f_fp1 dr mk least cov) i = none from by simp only [f_fp1, if_neg h1, if_pos h2]))) kk
      · skip
        refine EV_blk (own := 10) C rfl [(.iload 5, 0, 0, 0, 0), (.iload_n 1, 0, 0, 0, 0), (.iconst (-1), 0, 0, 0, (-1)), (.ixor, 0, 0, 0, 0), (.iand, 0, 0, 0, 0)] (pc' := 24) (by decide +kernel) (lv' := [some (.int dr), some (.int (nI mk)), some (.int (nI least)), some (.int cov), some (.int (nI 1)), some (.int (nI (least + i))), none, none]) (st' := [.int ((nI (least + i)) &&& ((nI mk) ^^^ (-1)))]) (I' := I) (J' := J) rfl ?_
        refine EV_if_eq (off := 6) (tgt := 30) C (by decide +kernel) (by decide) (fun h3 => ?_) (fun h3 => ?_)
        · skip
          refine EV_blk (own := 10) C rfl [(.iload_n 3, 0, 0, 0, 0), (.iload 5, 0, 0, 0, 0), (.ior, 0, 0, 0, 0), (.istore 6, 0, 0, 0, 0), (.iload 4, 0, 0, 0, 0), (.iconst 1, 0, 0, 0, (nI 1))] (pc' := 39) (by decide +kernel) (lv' := [some (.int dr), some (.int (nI mk)), some (.int (nI least)), some (.int cov), some (.int (nI 1)), some (.int (nI (least + i))), some (.int (cov ||| (nI (least + i)))), none]) (st' := [.int (nI 1), .int (nI 1)]) (I' := I) (J' := J) rfl ?_
          refine EV_icmp_le (off := 36) (tgt := 75) C (by decide +kernel) (by decide) (fun h4 => ?_) (fun h4 => ?_)
          · skip
            refine EV_blk (own := 10) C rfl [(.iload 6, 0, 0, 0, 0), (.iload_n 1, 0, 0, 0, 0)] (pc' := 78) (by decide +kernel) (lv' := [some (.int dr), some (.int (nI mk)), some (.int (nI least)), some (.int cov), some (.int (nI 1)), some (.int (nI (least + i))), some (.int (cov ||| (nI (least + i)))), none]) (st' := [.int (nI mk), .int (cov ||| (nI (least + i)))]) (I' := I) (J' := J) rfl ?_
            refine EV_icmp_ne (off := 8) (tgt := 86) C (by decide +kernel) (by decide) (fun h5 => ?_) (fun h5 => ?_)
            · skip
              refine EV_blk (own := 10) C rfl [(.iinc 5 1, 0, 0, 0, (nI 1)), (.goto (-86), 0, 0, 0, 0)] (pc' := 3) (by decide +kernel) (lv' := [some (.int dr), some (.int (nI mk)), some (.int (nI least)), some (.int cov), some (.int (nI 1)), some (.int ((nI (least + i)) + (nI 1))), some (.int (cov ||| (nI (least + i)))), none]) (st' := []) (I' := I) (J' := J) rfl ?_
              refine EV_fg (lv' := [some (.int dr), some (.int (nI mk)), some (.int (nI least)), some (.int cov), some (.int (nI 1)), some (.int ((nI (least + i)) + (nI 1))), none, none]) ⟨rfl, rfl, rfl, rfl, rfl, rfl, trivial⟩ ?_
              rw [show ((nI (least + i)) + (nI 1)) = (nI (least + (i + 1))) from by simp (disch := omega) only [nI_add, tq_mul] <;> exact congrArg nI (by omega)]
              exact ih (i + 1) (by omega) (hr.trans (tq_sr_none (show (f_fp1 dr mk least cov) i = none from by simp only [f_fp1, if_neg h1, if_neg h2, if_pos h3, if_pos h4, if_neg h5]))) kk
            · skip
              refine EV_blk (own := 10) C rfl [(.iconst 1, 0, 0, 0, (nI 1)), (.iload 5, 0, 0, 0, 0), (.ishl, 0, 0, 0, 0)] (pc' := 85) (by decide +kernel) (lv' := [some (.int dr), some (.int (nI mk)), some (.int (nI least)), some (.int cov), some (.int (nI 1)), some (.int (nI (least + i))), some (.int (cov ||| (nI (least + i)))), none]) (st' := [.int ((nI 1) <<< ((nI (least + i)) &&& 31))]) (I' := I) (J' := J) rfl ?_
              exact EV_iret C hZ rfl (by decide +kernel) (Nat.le_refl _) (Nat.le_refl _) ⟨tq_some ((hr.trans (tq_sr_some (show (f_fp1 dr mk least cov) i = some ((nI 1) <<< ((nI (least + i)) &&& 31)) from by simp only [f_fp1, if_neg h1, if_neg h2, if_pos h3, if_pos h4, if_pos h5]))).symm), rfl, rfl, rfl, rfl⟩
          · skip
            exact absurd (show (nI 1) ≤ (nI 1) by decide) h4
        · skip
          refine EV_blk (own := 10) C rfl [(.goto 59, 0, 0, 0, 0), (.iinc 5 1, 0, 0, 0, (nI 1)), (.goto (-86), 0, 0, 0, 0)] (pc' := 3) (by decide +kernel) (lv' := [some (.int dr), some (.int (nI mk)), some (.int (nI least)), some (.int cov), some (.int (nI 1)), some (.int ((nI (least + i)) + (nI 1))), none, none]) (st' := []) (I' := I) (J' := J) rfl ?_
          rw [show ((nI (least + i)) + (nI 1)) = (nI (least + (i + 1))) from by simp (disch := omega) only [nI_add, tq_mul] <;> exact congrArg nI (by omega)]
          exact ih (i + 1) (by omega) (hr.trans (tq_sr_none (show (f_fp1 dr mk least cov) i = none from by simp only [f_fp1, if_neg h1, if_neg h2, if_neg h3]))) kk
def r_firstParts1 (dr : Int32) (mk least : Nat) (cov : Int32) : Int32 := (tq_sr (f_fp1 dr mk least cov) (mk + 1 - least) 0 (nI 0))
set_option maxRecDepth 20000 in
theorem c_firstParts1 (g : tq_G) (rest : List tq_S) (I : tq_I) (J : Int64) (dr : Int32) (mk least : Nat) (cov : Int32) (hmk : mk ≤ 15) (hls : least ≤ mk + 1) : CT g mX10_firstParts 1 0 0 [.int dr, .int (nI mk), .int (nI least), .int cov, .int (nI 1)] (tq_SC ++ rest) tq_RR I J (tq_ret (tq_SC ++ rest) tq_RR (some (.int (r_firstParts1 dr mk least cov))) I J) := by
  refine CT.ret kX10_firstParts (Nat.le_of_ble_eq_true rfl) (fun x0 C hR hZ => ?_)
  refine EV_en (lv' := [some (.int dr), some (.int (nI mk)), some (.int (nI least)), some (.int cov), some (.int (nI 1)), none, none, none]) 3 rfl ?_
  refine EV_blk (own := 10) C rfl [(.iload_n 2, 0, 0, 0, 0), (.istore 5, 0, 0, 0, 0)] (pc' := 3) (by decide +kernel) (lv' := [some (.int dr), some (.int (nI mk)), some (.int (nI least)), some (.int cov), some (.int (nI 1)), some (.int (nI least)), none, none]) (st' := []) (I' := I) (J' := J) rfl ?_
  refine lp_fp1 I J C hR hZ dr mk least cov hmk hls (mk + 1 - least) 0 (by omega) (by simp only [r_firstParts1]) (fun hd => ?_)
  refine EV_blk (own := 10) C rfl [(.iconst 0, 0, 0, 0, (nI 0))] (pc' := 93) (by decide +kernel) (lv' := [some (.int dr), some (.int (nI mk)), some (.int (nI least)), some (.int cov), some (.int (nI 1)), none, none, none]) (st' := [.int (nI 0)]) (I' := I) (J' := J) rfl ?_
  exact EV_iret C hZ rfl (by decide +kernel) (Nat.le_refl _) (Nat.le_refl _) ⟨tq_some hd.symm, rfl, rfl, rfl, rfl⟩
def f_fp2 (dr : Int32) (mk least : Nat) (cov : Int32) (i : Nat) : Option Int32 := (if (tq_b (((dr >>> ((nI (least + i)) &&& 31)) &&& (nI 1)) = (nI 1))) = 0 then none else (if ((nI (least + i)) &&& ((nI mk) ^^^ (-1))) = 0 then (if (r_firstParts1 dr mk ((least + i) + 1) (cov ||| (nI (least + i)))) = 0 then none else (some ((r_firstParts1 dr mk ((least + i) + 1) (cov ||| (nI (least + i)))) ||| ((nI 1) <<< ((nI (least + i)) &&& 31))))) else none))
set_option maxRecDepth 20000 in
theorem lp_fp2 {g : tq_G} {rest : List tq_S} {x0 : tq_X} {res : Int32} (I : tq_I) (J : Int64) (C : tq_C g mX10_firstParts x0) (hR : tq_ht x0 2 0 0) (hZ : tq_end g x0 (tq_ret (tq_SC ++ rest) tq_RR (some (.int res)) I J) 0 0) (dr : Int32) (mk least : Nat) (cov : Int32) (hmk : mk ≤ 15) (hls : least ≤ mk + 1) : ∀ (n i : Nat), i + n = mk + 1 - least → res = tq_sr (f_fp2 dr mk least cov) n i (nI 0) → (res = (nI 0) → EV g mX10_firstParts x0 0 0 92 [some (.int dr), some (.int (nI mk)), some (.int (nI least)), some (.int cov), some (.int (nI 2)), none, none, none] [] (tq_SC ++ rest) tq_RR I J) → EV g mX10_firstParts x0 0 0 3 [some (.int dr), some (.int (nI mk)), some (.int (nI least)), some (.int cov), some (.int (nI 2)), some (.int (nI (least + i))), none, none] [] (tq_SC ++ rest) tq_RR I J := by
  intro n
  induction n with
  | zero =>
    intro i hi hr kk
    refine EV_blk (own := 10) C rfl [(.iload 5, 0, 0, 0, 0), (.iload_n 1, 0, 0, 0, 0)] (pc' := 6) (by decide +kernel) (lv' := [some (.int dr), some (.int (nI mk)), some (.int (nI least)), some (.int cov), some (.int (nI 2)), some (.int (nI (least + i))), none, none]) (st' := [.int (nI mk), .int (nI (least + i))]) (I' := I) (J' := J) rfl ?_
    refine EV_icmp_gt (off := 86) (tgt := 92) C (by decide +kernel) (by decide) (fun h1 => ?_) (fun h1 => ?_)
    · skip
      exact EV_fg (lv' := [some (.int dr), some (.int (nI mk)), some (.int (nI least)), some (.int cov), some (.int (nI 2)), none, none, none]) ⟨rfl, rfl, rfl, rfl, rfl, trivial⟩ (kk hr)
    · skip
      exact absurd h1 (by simp (disch := omega) only [Int32.lt_iff_toInt_lt, Int32.le_iff_toInt_le, Int32.toInt_zero, nI_toInt, tq_m1]; omega)
  | succ n ih =>
    intro i hi hr kk
    refine EV_blk (own := 10) C rfl [(.iload 5, 0, 0, 0, 0), (.iload_n 1, 0, 0, 0, 0)] (pc' := 6) (by decide +kernel) (lv' := [some (.int dr), some (.int (nI mk)), some (.int (nI least)), some (.int cov), some (.int (nI 2)), some (.int (nI (least + i))), none, none]) (st' := [.int (nI mk), .int (nI (least + i))]) (I' := I) (J' := J) rfl ?_
    refine EV_icmp_gt (off := 86) (tgt := 92) C (by decide +kernel) (by decide) (fun h1 => ?_) (fun h1 => ?_)
    · skip
      exact absurd h1 (by simp (disch := omega) only [Int32.lt_iff_toInt_lt, Int32.le_iff_toInt_le, Int32.toInt_zero, nI_toInt, tq_m1]; omega)
    · skip
      refine EV_blk (own := 10) C rfl [(.iload_n 0, 0, 0, 0, 0), (.iload 5, 0, 0, 0, 0)] (pc' := 12) (by decide +kernel) (lv' := [some (.int dr), some (.int (nI mk)), some (.int (nI least)), some (.int cov), some (.int (nI 2)), some (.int (nI (least + i))), none, none]) (st' := [.int (nI (least + i)), .int dr]) (I' := I) (J' := J) rfl ?_
      refine EV_cS (own := 10) (idx := 36) (μ' := mX10_has) (av := [.int dr, .int (nI (least + i))]) (rest := []) C hR rfl (Or.inl ⟨620, by decide⟩) kX10_has sX10_has (c_X10_has g rest I J dr (nI (least + i)) ) (by decide +kernel) rfl (by decide) (Nat.le_of_ble_eq_true rfl) rfl ⟨Nat.zero_le _, Nat.zero_le _⟩ ?_
      refine EV_if_eq (off := 71) (tgt := 86) C (by decide +kernel) (by decide) (fun h2 => ?_) (fun h2 => ?_)
      · skip
        refine EV_blk (own := 10) C rfl [(.iinc 5 1, 0, 0, 0, (nI 1)), (.goto (-86), 0, 0, 0, 0)] (pc' := 3) (by decide +kernel) (lv' := [some (.int dr), some (.int (nI mk)), some (.int (nI least)), some (.int cov), some (.int (nI 2)), some (.int ((nI (least + i)) + (nI 1))), none, none]) (st' := []) (I' := I) (J' := J) rfl ?_
        rw [show ((nI (least + i)) + (nI 1)) = (nI (least + (i + 1))) from by simp (disch := omega) only [nI_add, tq_mul] <;> exact congrArg nI (by omega)]
        exact ih (i + 1) (by omega) (hr.trans (tq_sr_none (show (f_fp2 dr mk least cov) i = none from by simp only [f_fp2, if_neg h1, if_pos h2]))) kk
      · skip
        refine EV_blk (own := 10) C rfl [(.iload 5, 0, 0, 0, 0), (.iload_n 1, 0, 0, 0, 0), (.iconst (-1), 0, 0, 0, (-1)), (.ixor, 0, 0, 0, 0), (.iand, 0, 0, 0, 0)] (pc' := 24) (by decide +kernel) (lv' := [some (.int dr), some (.int (nI mk)), some (.int (nI least)), some (.int cov), some (.int (nI 2)), some (.int (nI (least + i))), none, none]) (st' := [.int ((nI (least + i)) &&& ((nI mk) ^^^ (-1)))]) (I' := I) (J' := J) rfl ?_
        refine EV_if_eq (off := 6) (tgt := 30) C (by decide +kernel) (by decide) (fun h3 => ?_) (fun h3 => ?_)
        · skip
          refine EV_blk (own := 10) C rfl [(.iload_n 3, 0, 0, 0, 0), (.iload 5, 0, 0, 0, 0), (.ior, 0, 0, 0, 0), (.istore 6, 0, 0, 0, 0), (.iload 4, 0, 0, 0, 0), (.iconst 1, 0, 0, 0, (nI 1))] (pc' := 39) (by decide +kernel) (lv' := [some (.int dr), some (.int (nI mk)), some (.int (nI least)), some (.int cov), some (.int (nI 2)), some (.int (nI (least + i))), some (.int (cov ||| (nI (least + i)))), none]) (st' := [.int (nI 1), .int (nI 2)]) (I' := I) (J' := J) rfl ?_
          refine EV_icmp_le (off := 36) (tgt := 75) C (by decide +kernel) (by decide) (fun h4 => ?_) (fun h4 => ?_)
          · skip
            exact absurd h4 (by decide)
          · skip
            refine EV_blk (own := 10) C rfl [(.iload_n 0, 0, 0, 0, 0), (.iload_n 1, 0, 0, 0, 0), (.iload 5, 0, 0, 0, 0), (.iconst 1, 0, 0, 0, (nI 1)), (.iadd, 0, 0, 0, 0), (.iload 6, 0, 0, 0, 0), (.iload 4, 0, 0, 0, 0), (.iconst 1, 0, 0, 0, (nI 1)), (.isub, 0, 0, 0, 0)] (pc' := 54) (by decide +kernel) (lv' := [some (.int dr), some (.int (nI mk)), some (.int (nI least)), some (.int cov), some (.int (nI 2)), some (.int (nI (least + i))), some (.int (cov ||| (nI (least + i)))), none]) (st' := [.int ((nI 2) - (nI 1)), .int (cov ||| (nI (least + i))), .int ((nI (least + i)) + (nI 1)), .int (nI mk), .int dr]) (I' := I) (J' := J) rfl ?_
            refine EV_ste (st' := [.int (nI 1), .int (cov ||| (nI (least + i))), .int ((nI (least + i)) + (nI 1)), .int (nI mk), .int dr]) (by rw [show (nI 2) - (nI 1) = (nI 1) from by decide]) ?_
            rw [show ((nI (least + i)) + (nI 1)) = (nI ((least + i) + 1)) from by simp (disch := omega) only [nI_add, tq_mul, tq_rem_nI, tq_div_nI, tq_sub_nI]]
            refine EV_cS (own := 10) (idx := 40) (μ' := mX10_firstParts) (av := [.int dr, .int (nI mk), .int (nI ((least + i) + 1)), .int (cov ||| (nI (least + i))), .int (nI 1)]) (rest := []) C hR rfl (Or.inl ⟨626, by decide⟩) kX10_firstParts sX10_firstParts (c_firstParts1 g rest I J dr mk ((least + i) + 1) (cov ||| (nI (least + i))) (by omega) (by omega)) (by decide +kernel) rfl (by decide) (Nat.le_of_ble_eq_true rfl) rfl ⟨Nat.zero_le _, Nat.zero_le _⟩ ?_
            refine EV_blk (own := 10) C rfl [(.istore 7, 0, 0, 0, 0), (.iload 7, 0, 0, 0, 0)] (pc' := 61) (by decide +kernel) (lv' := [some (.int dr), some (.int (nI mk)), some (.int (nI least)), some (.int cov), some (.int (nI 2)), some (.int (nI (least + i))), some (.int (cov ||| (nI (least + i)))), some (.int (r_firstParts1 dr mk ((least + i) + 1) (cov ||| (nI (least + i)))))]) (st' := [.int (r_firstParts1 dr mk ((least + i) + 1) (cov ||| (nI (least + i))))]) (I' := I) (J' := J) rfl ?_
            refine EV_if_eq (off := 11) (tgt := 72) C (by decide +kernel) (by decide) (fun h5 => ?_) (fun h5 => ?_)
            · skip
              refine EV_blk (own := 10) C rfl [(.goto 14, 0, 0, 0, 0), (.iinc 5 1, 0, 0, 0, (nI 1)), (.goto (-86), 0, 0, 0, 0)] (pc' := 3) (by decide +kernel) (lv' := [some (.int dr), some (.int (nI mk)), some (.int (nI least)), some (.int cov), some (.int (nI 2)), some (.int ((nI (least + i)) + (nI 1))), some (.int (cov ||| (nI (least + i)))), some (.int (r_firstParts1 dr mk ((least + i) + 1) (cov ||| (nI (least + i)))))]) (st' := []) (I' := I) (J' := J) rfl ?_
              refine EV_fg (lv' := [some (.int dr), some (.int (nI mk)), some (.int (nI least)), some (.int cov), some (.int (nI 2)), some (.int ((nI (least + i)) + (nI 1))), none, none]) ⟨rfl, rfl, rfl, rfl, rfl, rfl, trivial⟩ ?_
              rw [show ((nI (least + i)) + (nI 1)) = (nI (least + (i + 1))) from by simp (disch := omega) only [nI_add, tq_mul] <;> exact congrArg nI (by omega)]
              exact ih (i + 1) (by omega) (hr.trans (tq_sr_none (show (f_fp2 dr mk least cov) i = none from by simp only [f_fp2, if_neg h1, if_neg h2, if_pos h3, if_neg h4, if_pos h5]))) kk
            · skip
              refine EV_blk (own := 10) C rfl [(.iload 7, 0, 0, 0, 0), (.iconst 1, 0, 0, 0, (nI 1)), (.iload 5, 0, 0, 0, 0), (.ishl, 0, 0, 0, 0), (.ior, 0, 0, 0, 0)] (pc' := 71) (by decide +kernel) (lv' := [some (.int dr), some (.int (nI mk)), some (.int (nI least)), some (.int cov), some (.int (nI 2)), some (.int (nI (least + i))), some (.int (cov ||| (nI (least + i)))), some (.int (r_firstParts1 dr mk ((least + i) + 1) (cov ||| (nI (least + i)))))]) (st' := [.int ((r_firstParts1 dr mk ((least + i) + 1) (cov ||| (nI (least + i)))) ||| ((nI 1) <<< ((nI (least + i)) &&& 31)))]) (I' := I) (J' := J) rfl ?_
              exact EV_iret C hZ rfl (by decide +kernel) (Nat.le_refl _) (Nat.le_refl _) ⟨tq_some ((hr.trans (tq_sr_some (show (f_fp2 dr mk least cov) i = some ((r_firstParts1 dr mk ((least + i) + 1) (cov ||| (nI (least + i)))) ||| ((nI 1) <<< ((nI (least + i)) &&& 31))) from by simp only [f_fp2, if_neg h1, if_neg h2, if_pos h3, if_neg h4, if_neg h5]))).symm), rfl, rfl, rfl, rfl⟩
        · skip
          refine EV_blk (own := 10) C rfl [(.goto 59, 0, 0, 0, 0), (.iinc 5 1, 0, 0, 0, (nI 1)), (.goto (-86), 0, 0, 0, 0)] (pc' := 3) (by decide +kernel) (lv' := [some (.int dr), some (.int (nI mk)), some (.int (nI least)), some (.int cov), some (.int (nI 2)), some (.int ((nI (least + i)) + (nI 1))), none, none]) (st' := []) (I' := I) (J' := J) rfl ?_
          rw [show ((nI (least + i)) + (nI 1)) = (nI (least + (i + 1))) from by simp (disch := omega) only [nI_add, tq_mul] <;> exact congrArg nI (by omega)]
          exact ih (i + 1) (by omega) (hr.trans (tq_sr_none (show (f_fp2 dr mk least cov) i = none from by simp only [f_fp2, if_neg h1, if_neg h2, if_neg h3]))) kk
def r_firstParts2 (dr : Int32) (mk least : Nat) (cov : Int32) : Int32 := (tq_sr (f_fp2 dr mk least cov) (mk + 1 - least) 0 (nI 0))
set_option maxRecDepth 20000 in
theorem c_firstParts2 (g : tq_G) (rest : List tq_S) (I : tq_I) (J : Int64) (dr : Int32) (mk least : Nat) (cov : Int32) (hmk : mk ≤ 15) (hls : least ≤ mk + 1) : CT g mX10_firstParts 2 0 0 [.int dr, .int (nI mk), .int (nI least), .int cov, .int (nI 2)] (tq_SC ++ rest) tq_RR I J (tq_ret (tq_SC ++ rest) tq_RR (some (.int (r_firstParts2 dr mk least cov))) I J) := by
  refine CT.ret kX10_firstParts (Nat.le_of_ble_eq_true rfl) (fun x0 C hR hZ => ?_)
  refine EV_en (lv' := [some (.int dr), some (.int (nI mk)), some (.int (nI least)), some (.int cov), some (.int (nI 2)), none, none, none]) 3 rfl ?_
  refine EV_blk (own := 10) C rfl [(.iload_n 2, 0, 0, 0, 0), (.istore 5, 0, 0, 0, 0)] (pc' := 3) (by decide +kernel) (lv' := [some (.int dr), some (.int (nI mk)), some (.int (nI least)), some (.int cov), some (.int (nI 2)), some (.int (nI least)), none, none]) (st' := []) (I' := I) (J' := J) rfl ?_
  refine lp_fp2 I J C hR hZ dr mk least cov hmk hls (mk + 1 - least) 0 (by omega) (by simp only [r_firstParts2]) (fun hd => ?_)
  refine EV_blk (own := 10) C rfl [(.iconst 0, 0, 0, 0, (nI 0))] (pc' := 93) (by decide +kernel) (lv' := [some (.int dr), some (.int (nI mk)), some (.int (nI least)), some (.int cov), some (.int (nI 2)), none, none, none]) (st' := [.int (nI 0)]) (I' := I) (J' := J) rfl ?_
  exact EV_iret C hZ rfl (by decide +kernel) (Nat.le_refl _) (Nat.le_refl _) ⟨tq_some hd.symm, rfl, rfl, rfl, rfl⟩
def f_fp3 (dr : Int32) (mk least : Nat) (cov : Int32) (i : Nat) : Option Int32 := (if (tq_b (((dr >>> ((nI (least + i)) &&& 31)) &&& (nI 1)) = (nI 1))) = 0 then none else (if ((nI (least + i)) &&& ((nI mk) ^^^ (-1))) = 0 then (if (r_firstParts2 dr mk ((least + i) + 1) (cov ||| (nI (least + i)))) = 0 then none else (some ((r_firstParts2 dr mk ((least + i) + 1) (cov ||| (nI (least + i)))) ||| ((nI 1) <<< ((nI (least + i)) &&& 31))))) else none))
set_option maxRecDepth 20000 in
theorem lp_fp3 {g : tq_G} {rest : List tq_S} {x0 : tq_X} {res : Int32} (I : tq_I) (J : Int64) (C : tq_C g mX10_firstParts x0) (hR : tq_ht x0 3 0 0) (hZ : tq_end g x0 (tq_ret (tq_SC ++ rest) tq_RR (some (.int res)) I J) 0 0) (dr : Int32) (mk least : Nat) (cov : Int32) (hmk : mk ≤ 15) (hls : least ≤ mk + 1) : ∀ (n i : Nat), i + n = mk + 1 - least → res = tq_sr (f_fp3 dr mk least cov) n i (nI 0) → (res = (nI 0) → EV g mX10_firstParts x0 0 0 92 [some (.int dr), some (.int (nI mk)), some (.int (nI least)), some (.int cov), some (.int (nI 3)), none, none, none] [] (tq_SC ++ rest) tq_RR I J) → EV g mX10_firstParts x0 0 0 3 [some (.int dr), some (.int (nI mk)), some (.int (nI least)), some (.int cov), some (.int (nI 3)), some (.int (nI (least + i))), none, none] [] (tq_SC ++ rest) tq_RR I J := by
  intro n
  induction n with
  | zero =>
    intro i hi hr kk
    refine EV_blk (own := 10) C rfl [(.iload 5, 0, 0, 0, 0), (.iload_n 1, 0, 0, 0, 0)] (pc' := 6) (by decide +kernel) (lv' := [some (.int dr), some (.int (nI mk)), some (.int (nI least)), some (.int cov), some (.int (nI 3)), some (.int (nI (least + i))), none, none]) (st' := [.int (nI mk), .int (nI (least + i))]) (I' := I) (J' := J) rfl ?_
    refine EV_icmp_gt (off := 86) (tgt := 92) C (by decide +kernel) (by decide) (fun h1 => ?_) (fun h1 => ?_)
    · skip
      exact EV_fg (lv' := [some (.int dr), some (.int (nI mk)), some (.int (nI least)), some (.int cov), some (.int (nI 3)), none, none, none]) ⟨rfl, rfl, rfl, rfl, rfl, trivial⟩ (kk hr)
    · skip
      exact absurd h1 (by simp (disch := omega) only [Int32.lt_iff_toInt_lt, Int32.le_iff_toInt_le, Int32.toInt_zero, nI_toInt, tq_m1]; omega)
  | succ n ih =>
    intro i hi hr kk
    refine EV_blk (own := 10) C rfl [(.iload 5, 0, 0, 0, 0), (.iload_n 1, 0, 0, 0, 0)] (pc' := 6) (by decide +kernel) (lv' := [some (.int dr), some (.int (nI mk)), some (.int (nI least)), some (.int cov), some (.int (nI 3)), some (.int (nI (least + i))), none, none]) (st' := [.int (nI mk), .int (nI (least + i))]) (I' := I) (J' := J) rfl ?_
    refine EV_icmp_gt (off := 86) (tgt := 92) C (by decide +kernel) (by decide) (fun h1 => ?_) (fun h1 => ?_)
    · skip
      exact absurd h1 (by simp (disch := omega) only [Int32.lt_iff_toInt_lt, Int32.le_iff_toInt_le, Int32.toInt_zero, nI_toInt, tq_m1]; omega)
    · skip
      refine EV_blk (own := 10) C rfl [(.iload_n 0, 0, 0, 0, 0), (.iload 5, 0, 0, 0, 0)] (pc' := 12) (by decide +kernel) (lv' := [some (.int dr), some (.int (nI mk)), some (.int (nI least)), some (.int cov), some (.int (nI 3)), some (.int (nI (least + i))), none, none]) (st' := [.int (nI (least + i)), .int dr]) (I' := I) (J' := J) rfl ?_
      refine EV_cS (own := 10) (idx := 36) (μ' := mX10_has) (av := [.int dr, .int (nI (least + i))]) (rest := []) C hR rfl (Or.inl ⟨620, by decide⟩) kX10_has sX10_has (c_X10_has g rest I J dr (nI (least + i)) ) (by decide +kernel) rfl (by decide) (Nat.le_of_ble_eq_true rfl) rfl ⟨Nat.zero_le _, Nat.zero_le _⟩ ?_
      refine EV_if_eq (off := 71) (tgt := 86) C (by decide +kernel) (by decide) (fun h2 => ?_) (fun h2 => ?_)
      · skip
        refine EV_blk (own := 10) C rfl [(.iinc 5 1, 0, 0, 0, (nI 1)), (.goto (-86), 0, 0, 0, 0)] (pc' := 3) (by decide +kernel) (lv' := [some (.int dr), some (.int (nI mk)), some (.int (nI least)), some (.int cov), some (.int (nI 3)), some (.int ((nI (least + i)) + (nI 1))), none, none]) (st' := []) (I' := I) (J' := J) rfl ?_
        rw [show ((nI (least + i)) + (nI 1)) = (nI (least + (i + 1))) from by simp (disch := omega) only [nI_add, tq_mul] <;> exact congrArg nI (by omega)]
        exact ih (i + 1) (by omega) (hr.trans (tq_sr_none (show (f_fp3 dr mk least cov) i = none from by simp only [f_fp3, if_neg h1, if_pos h2]))) kk
      · skip
        refine EV_blk (own := 10) C rfl [(.iload 5, 0, 0, 0, 0), (.iload_n 1, 0, 0, 0, 0), (.iconst (-1), 0, 0, 0, (-1)), (.ixor, 0, 0, 0, 0), (.iand, 0, 0, 0, 0)] (pc' := 24) (by decide +kernel) (lv' := [some (.int dr), some (.int (nI mk)), some (.int (nI least)), some (.int cov), some (.int (nI 3)), some (.int (nI (least + i))), none, none]) (st' := [.int ((nI (least + i)) &&& ((nI mk) ^^^ (-1)))]) (I' := I) (J' := J) rfl ?_
        refine EV_if_eq (off := 6) (tgt := 30) C (by decide +kernel) (by decide) (fun h3 => ?_) (fun h3 => ?_)
        · skip
          refine EV_blk (own := 10) C rfl [(.iload_n 3, 0, 0, 0, 0), (.iload 5, 0, 0, 0, 0), (.ior, 0, 0, 0, 0), (.istore 6, 0, 0, 0, 0), (.iload 4, 0, 0, 0, 0), (.iconst 1, 0, 0, 0, (nI 1))] (pc' := 39) (by decide +kernel) (lv' := [some (.int dr), some (.int (nI mk)), some (.int (nI least)), some (.int cov), some (.int (nI 3)), some (.int (nI (least + i))), some (.int (cov ||| (nI (least + i)))), none]) (st' := [.int (nI 1), .int (nI 3)]) (I' := I) (J' := J) rfl ?_
          refine EV_icmp_le (off := 36) (tgt := 75) C (by decide +kernel) (by decide) (fun h4 => ?_) (fun h4 => ?_)
          · skip
            exact absurd h4 (by decide)
          · skip
            refine EV_blk (own := 10) C rfl [(.iload_n 0, 0, 0, 0, 0), (.iload_n 1, 0, 0, 0, 0), (.iload 5, 0, 0, 0, 0), (.iconst 1, 0, 0, 0, (nI 1)), (.iadd, 0, 0, 0, 0), (.iload 6, 0, 0, 0, 0), (.iload 4, 0, 0, 0, 0), (.iconst 1, 0, 0, 0, (nI 1)), (.isub, 0, 0, 0, 0)] (pc' := 54) (by decide +kernel) (lv' := [some (.int dr), some (.int (nI mk)), some (.int (nI least)), some (.int cov), some (.int (nI 3)), some (.int (nI (least + i))), some (.int (cov ||| (nI (least + i)))), none]) (st' := [.int ((nI 3) - (nI 1)), .int (cov ||| (nI (least + i))), .int ((nI (least + i)) + (nI 1)), .int (nI mk), .int dr]) (I' := I) (J' := J) rfl ?_
            refine EV_ste (st' := [.int (nI 2), .int (cov ||| (nI (least + i))), .int ((nI (least + i)) + (nI 1)), .int (nI mk), .int dr]) (by rw [show (nI 3) - (nI 1) = (nI 2) from by decide]) ?_
            rw [show ((nI (least + i)) + (nI 1)) = (nI ((least + i) + 1)) from by simp (disch := omega) only [nI_add, tq_mul, tq_rem_nI, tq_div_nI, tq_sub_nI]]
            refine EV_cS (own := 10) (idx := 40) (μ' := mX10_firstParts) (av := [.int dr, .int (nI mk), .int (nI ((least + i) + 1)), .int (cov ||| (nI (least + i))), .int (nI 2)]) (rest := []) C hR rfl (Or.inl ⟨626, by decide⟩) kX10_firstParts sX10_firstParts (c_firstParts2 g rest I J dr mk ((least + i) + 1) (cov ||| (nI (least + i))) (by omega) (by omega)) (by decide +kernel) rfl (by decide) (Nat.le_of_ble_eq_true rfl) rfl ⟨Nat.zero_le _, Nat.zero_le _⟩ ?_
            refine EV_blk (own := 10) C rfl [(.istore 7, 0, 0, 0, 0), (.iload 7, 0, 0, 0, 0)] (pc' := 61) (by decide +kernel) (lv' := [some (.int dr), some (.int (nI mk)), some (.int (nI least)), some (.int cov), some (.int (nI 3)), some (.int (nI (least + i))), some (.int (cov ||| (nI (least + i)))), some (.int (r_firstParts2 dr mk ((least + i) + 1) (cov ||| (nI (least + i)))))]) (st' := [.int (r_firstParts2 dr mk ((least + i) + 1) (cov ||| (nI (least + i))))]) (I' := I) (J' := J) rfl ?_
            refine EV_if_eq (off := 11) (tgt := 72) C (by decide +kernel) (by decide) (fun h5 => ?_) (fun h5 => ?_)
            · skip
              refine EV_blk (own := 10) C rfl [(.goto 14, 0, 0, 0, 0), (.iinc 5 1, 0, 0, 0, (nI 1)), (.goto (-86), 0, 0, 0, 0)] (pc' := 3) (by decide +kernel) (lv' := [some (.int dr), some (.int (nI mk)), some (.int (nI least)), some (.int cov), some (.int (nI 3)), some (.int ((nI (least + i)) + (nI 1))), some (.int (cov ||| (nI (least + i)))), some (.int (r_firstParts2 dr mk ((least + i) + 1) (cov ||| (nI (least + i)))))]) (st' := []) (I' := I) (J' := J) rfl ?_
              refine EV_fg (lv' := [some (.int dr), some (.int (nI mk)), some (.int (nI least)), some (.int cov), some (.int (nI 3)), some (.int ((nI (least + i)) + (nI 1))), none, none]) ⟨rfl, rfl, rfl, rfl, rfl, rfl, trivial⟩ ?_
              rw [show ((nI (least + i)) + (nI 1)) = (nI (least + (i + 1))) from by simp (disch := omega) only [nI_add, tq_mul] <;> exact congrArg nI (by omega)]
              exact ih (i + 1) (by omega) (hr.trans (tq_sr_none (show (f_fp3 dr mk least cov) i = none from by simp only [f_fp3, if_neg h1, if_neg h2, if_pos h3, if_neg h4, if_pos h5]))) kk
            · skip
              refine EV_blk (own := 10) C rfl [(.iload 7, 0, 0, 0, 0), (.iconst 1, 0, 0, 0, (nI 1)), (.iload 5, 0, 0, 0, 0), (.ishl, 0, 0, 0, 0), (.ior, 0, 0, 0, 0)] (pc' := 71) (by decide +kernel) (lv' := [some (.int dr), some (.int (nI mk)), some (.int (nI least)), some (.int cov), some (.int (nI 3)), some (.int (nI (least + i))), some (.int (cov ||| (nI (least + i)))), some (.int (r_firstParts2 dr mk ((least + i) + 1) (cov ||| (nI (least + i)))))]) (st' := [.int ((r_firstParts2 dr mk ((least + i) + 1) (cov ||| (nI (least + i)))) ||| ((nI 1) <<< ((nI (least + i)) &&& 31)))]) (I' := I) (J' := J) rfl ?_
              exact EV_iret C hZ rfl (by decide +kernel) (Nat.le_refl _) (Nat.le_refl _) ⟨tq_some ((hr.trans (tq_sr_some (show (f_fp3 dr mk least cov) i = some ((r_firstParts2 dr mk ((least + i) + 1) (cov ||| (nI (least + i)))) ||| ((nI 1) <<< ((nI (least + i)) &&& 31))) from by simp only [f_fp3, if_neg h1, if_neg h2, if_pos h3, if_neg h4, if_neg h5]))).symm), rfl, rfl, rfl, rfl⟩
        · skip
          refine EV_blk (own := 10) C rfl [(.goto 59, 0, 0, 0, 0), (.iinc 5 1, 0, 0, 0, (nI 1)), (.goto (-86), 0, 0, 0, 0)] (pc' := 3) (by decide +kernel) (lv' := [some (.int dr), some (.int (nI mk)), some (.int (nI least)), some (.int cov), some (.int (nI 3)), some (.int ((nI (least + i)) + (nI 1))), none, none]) (st' := []) (I' := I) (J' := J) rfl ?_
          rw [show ((nI (least + i)) + (nI 1)) = (nI (least + (i + 1))) from by simp (disch := omega) only [nI_add, tq_mul] <;> exact congrArg nI (by omega)]
          exact ih (i + 1) (by omega) (hr.trans (tq_sr_none (show (f_fp3 dr mk least cov) i = none from by simp only [f_fp3, if_neg h1, if_neg h2, if_neg h3]))) kk
def r_firstParts3 (dr : Int32) (mk least : Nat) (cov : Int32) : Int32 := (tq_sr (f_fp3 dr mk least cov) (mk + 1 - least) 0 (nI 0))
set_option maxRecDepth 20000 in
theorem c_firstParts3 (g : tq_G) (rest : List tq_S) (I : tq_I) (J : Int64) (dr : Int32) (mk least : Nat) (cov : Int32) (hmk : mk ≤ 15) (hls : least ≤ mk + 1) : CT g mX10_firstParts 3 0 0 [.int dr, .int (nI mk), .int (nI least), .int cov, .int (nI 3)] (tq_SC ++ rest) tq_RR I J (tq_ret (tq_SC ++ rest) tq_RR (some (.int (r_firstParts3 dr mk least cov))) I J) := by
  refine CT.ret kX10_firstParts (Nat.le_of_ble_eq_true rfl) (fun x0 C hR hZ => ?_)
  refine EV_en (lv' := [some (.int dr), some (.int (nI mk)), some (.int (nI least)), some (.int cov), some (.int (nI 3)), none, none, none]) 3 rfl ?_
  refine EV_blk (own := 10) C rfl [(.iload_n 2, 0, 0, 0, 0), (.istore 5, 0, 0, 0, 0)] (pc' := 3) (by decide +kernel) (lv' := [some (.int dr), some (.int (nI mk)), some (.int (nI least)), some (.int cov), some (.int (nI 3)), some (.int (nI least)), none, none]) (st' := []) (I' := I) (J' := J) rfl ?_
  refine lp_fp3 I J C hR hZ dr mk least cov hmk hls (mk + 1 - least) 0 (by omega) (by simp only [r_firstParts3]) (fun hd => ?_)
  refine EV_blk (own := 10) C rfl [(.iconst 0, 0, 0, 0, (nI 0))] (pc' := 93) (by decide +kernel) (lv' := [some (.int dr), some (.int (nI mk)), some (.int (nI least)), some (.int cov), some (.int (nI 3)), none, none, none]) (st' := [.int (nI 0)]) (I' := I) (J' := J) rfl ?_
  exact EV_iret C hZ rfl (by decide +kernel) (Nat.le_refl _) (Nat.le_refl _) ⟨tq_some hd.symm, rfl, rfl, rfl, rfl⟩
def f_fp4 (dr : Int32) (mk least : Nat) (cov : Int32) (i : Nat) : Option Int32 := (if (tq_b (((dr >>> ((nI (least + i)) &&& 31)) &&& (nI 1)) = (nI 1))) = 0 then none else (if ((nI (least + i)) &&& ((nI mk) ^^^ (-1))) = 0 then (if (r_firstParts3 dr mk ((least + i) + 1) (cov ||| (nI (least + i)))) = 0 then none else (some ((r_firstParts3 dr mk ((least + i) + 1) (cov ||| (nI (least + i)))) ||| ((nI 1) <<< ((nI (least + i)) &&& 31))))) else none))
set_option maxRecDepth 20000 in
theorem lp_fp4 {g : tq_G} {rest : List tq_S} {x0 : tq_X} {res : Int32} (I : tq_I) (J : Int64) (C : tq_C g mX10_firstParts x0) (hR : tq_ht x0 4 0 0) (hZ : tq_end g x0 (tq_ret (tq_SC ++ rest) tq_RR (some (.int res)) I J) 0 0) (dr : Int32) (mk least : Nat) (cov : Int32) (hmk : mk ≤ 15) (hls : least ≤ mk + 1) : ∀ (n i : Nat), i + n = mk + 1 - least → res = tq_sr (f_fp4 dr mk least cov) n i (nI 0) → (res = (nI 0) → EV g mX10_firstParts x0 0 0 92 [some (.int dr), some (.int (nI mk)), some (.int (nI least)), some (.int cov), some (.int (nI 4)), none, none, none] [] (tq_SC ++ rest) tq_RR I J) → EV g mX10_firstParts x0 0 0 3 [some (.int dr), some (.int (nI mk)), some (.int (nI least)), some (.int cov), some (.int (nI 4)), some (.int (nI (least + i))), none, none] [] (tq_SC ++ rest) tq_RR I J := by
  intro n
  induction n with
  | zero =>
    intro i hi hr kk
    refine EV_blk (own := 10) C rfl [(.iload 5, 0, 0, 0, 0), (.iload_n 1, 0, 0, 0, 0)] (pc' := 6) (by decide +kernel) (lv' := [some (.int dr), some (.int (nI mk)), some (.int (nI least)), some (.int cov), some (.int (nI 4)), some (.int (nI (least + i))), none, none]) (st' := [.int (nI mk), .int (nI (least + i))]) (I' := I) (J' := J) rfl ?_
    refine EV_icmp_gt (off := 86) (tgt := 92) C (by decide +kernel) (by decide) (fun h1 => ?_) (fun h1 => ?_)
    · skip
      exact EV_fg (lv' := [some (.int dr), some (.int (nI mk)), some (.int (nI least)), some (.int cov), some (.int (nI 4)), none, none, none]) ⟨rfl, rfl, rfl, rfl, rfl, trivial⟩ (kk hr)
    · skip
      exact absurd h1 (by simp (disch := omega) only [Int32.lt_iff_toInt_lt, Int32.le_iff_toInt_le, Int32.toInt_zero, nI_toInt, tq_m1]; omega)
  | succ n ih =>
    intro i hi hr kk
    refine EV_blk (own := 10) C rfl [(.iload 5, 0, 0, 0, 0), (.iload_n 1, 0, 0, 0, 0)] (pc' := 6) (by decide +kernel) (lv' := [some (.int dr), some (.int (nI mk)), some (.int (nI least)), some (.int cov), some (.int (nI 4)), some (.int (nI (least + i))), none, none]) (st' := [.int (nI mk), .int (nI (least + i))]) (I' := I) (J' := J) rfl ?_
    refine EV_icmp_gt (off := 86) (tgt := 92) C (by decide +kernel) (by decide) (fun h1 => ?_) (fun h1 => ?_)
    · skip
      exact absurd h1 (by simp (disch := omega) only [Int32.lt_iff_toInt_lt, Int32.le_iff_toInt_le, Int32.toInt_zero, nI_toInt, tq_m1]; omega)
    · skip
      refine EV_blk (own := 10) C rfl [(.iload_n 0, 0, 0, 0, 0), (.iload 5, 0, 0, 0, 0)] (pc' := 12) (by decide +kernel) (lv' := [some (.int dr), some (.int (nI mk)), some (.int (nI least)), some (.int cov), some (.int (nI 4)), some (.int (nI (least + i))), none, none]) (st' := [.int (nI (least + i)), .int dr]) (I' := I) (J' := J) rfl ?_
      refine EV_cS (own := 10) (idx := 36) (μ' := mX10_has) (av := [.int dr, .int (nI (least + i))]) (rest := []) C hR rfl (Or.inl ⟨620, by decide⟩) kX10_has sX10_has (c_X10_has g rest I J dr (nI (least + i)) ) (by decide +kernel) rfl (by decide) (Nat.le_of_ble_eq_true rfl) rfl ⟨Nat.zero_le _, Nat.zero_le _⟩ ?_
      refine EV_if_eq (off := 71) (tgt := 86) C (by decide +kernel) (by decide) (fun h2 => ?_) (fun h2 => ?_)
      · skip
        refine EV_blk (own := 10) C rfl [(.iinc 5 1, 0, 0, 0, (nI 1)), (.goto (-86), 0, 0, 0, 0)] (pc' := 3) (by decide +kernel) (lv' := [some (.int dr), some (.int (nI mk)), some (.int (nI least)), some (.int cov), some (.int (nI 4)), some (.int ((nI (least + i)) + (nI 1))), none, none]) (st' := []) (I' := I) (J' := J) rfl ?_
        rw [show ((nI (least + i)) + (nI 1)) = (nI (least + (i + 1))) from by simp (disch := omega) only [nI_add, tq_mul] <;> exact congrArg nI (by omega)]
        exact ih (i + 1) (by omega) (hr.trans (tq_sr_none (show (f_fp4 dr mk least cov) i = none from by simp only [f_fp4, if_neg h1, if_pos h2]))) kk
      · skip
        refine EV_blk (own := 10) C rfl [(.iload 5, 0, 0, 0, 0), (.iload_n 1, 0, 0, 0, 0), (.iconst (-1), 0, 0, 0, (-1)), (.ixor, 0, 0, 0, 0), (.iand, 0, 0, 0, 0)] (pc' := 24) (by decide +kernel) (lv' := [some (.int dr), some (.int (nI mk)), some (.int (nI least)), some (.int cov), some (.int (nI 4)), some (.int (nI (least + i))), none, none]) (st' := [.int ((nI (least + i)) &&& ((nI mk) ^^^ (-1)))]) (I' := I) (J' := J) rfl ?_
        refine EV_if_eq (off := 6) (tgt := 30) C (by decide +kernel) (by decide) (fun h3 => ?_) (fun h3 => ?_)
        · skip
          refine EV_blk (own := 10) C rfl [(.iload_n 3, 0, 0, 0, 0), (.iload 5, 0, 0, 0, 0), (.ior, 0, 0, 0, 0), (.istore 6, 0, 0, 0, 0), (.iload 4, 0, 0, 0, 0), (.iconst 1, 0, 0, 0, (nI 1))] (pc' := 39) (by decide +kernel) (lv' := [some (.int dr), some (.int (nI mk)), some (.int (nI least)), some (.int cov), some (.int (nI 4)), some (.int (nI (least + i))), some (.int (cov ||| (nI (least + i)))), none]) (st' := [.int (nI 1), .int (nI 4)]) (I' := I) (J' := J) rfl ?_
          refine EV_icmp_le (off := 36) (tgt := 75) C (by decide +kernel) (by decide) (fun h4 => ?_) (fun h4 => ?_)
          · skip
            exact absurd h4 (by decide)
          · skip
            refine EV_blk (own := 10) C rfl [(.iload_n 0, 0, 0, 0, 0), (.iload_n 1, 0, 0, 0, 0), (.iload 5, 0, 0, 0, 0), (.iconst 1, 0, 0, 0, (nI 1)), (.iadd, 0, 0, 0, 0), (.iload 6, 0, 0, 0, 0), (.iload 4, 0, 0, 0, 0), (.iconst 1, 0, 0, 0, (nI 1)), (.isub, 0, 0, 0, 0)] (pc' := 54) (by decide +kernel) (lv' := [some (.int dr), some (.int (nI mk)), some (.int (nI least)), some (.int cov), some (.int (nI 4)), some (.int (nI (least + i))), some (.int (cov ||| (nI (least + i)))), none]) (st' := [.int ((nI 4) - (nI 1)), .int (cov ||| (nI (least + i))), .int ((nI (least + i)) + (nI 1)), .int (nI mk), .int dr]) (I' := I) (J' := J) rfl ?_
            refine EV_ste (st' := [.int (nI 3), .int (cov ||| (nI (least + i))), .int ((nI (least + i)) + (nI 1)), .int (nI mk), .int dr]) (by rw [show (nI 4) - (nI 1) = (nI 3) from by decide]) ?_
            rw [show ((nI (least + i)) + (nI 1)) = (nI ((least + i) + 1)) from by simp (disch := omega) only [nI_add, tq_mul, tq_rem_nI, tq_div_nI, tq_sub_nI]]
            refine EV_cS (own := 10) (idx := 40) (μ' := mX10_firstParts) (av := [.int dr, .int (nI mk), .int (nI ((least + i) + 1)), .int (cov ||| (nI (least + i))), .int (nI 3)]) (rest := []) C hR rfl (Or.inl ⟨626, by decide⟩) kX10_firstParts sX10_firstParts (c_firstParts3 g rest I J dr mk ((least + i) + 1) (cov ||| (nI (least + i))) (by omega) (by omega)) (by decide +kernel) rfl (by decide) (Nat.le_of_ble_eq_true rfl) rfl ⟨Nat.zero_le _, Nat.zero_le _⟩ ?_
            refine EV_blk (own := 10) C rfl [(.istore 7, 0, 0, 0, 0), (.iload 7, 0, 0, 0, 0)] (pc' := 61) (by decide +kernel) (lv' := [some (.int dr), some (.int (nI mk)), some (.int (nI least)), some (.int cov), some (.int (nI 4)), some (.int (nI (least + i))), some (.int (cov ||| (nI (least + i)))), some (.int (r_firstParts3 dr mk ((least + i) + 1) (cov ||| (nI (least + i)))))]) (st' := [.int (r_firstParts3 dr mk ((least + i) + 1) (cov ||| (nI (least + i))))]) (I' := I) (J' := J) rfl ?_
            refine EV_if_eq (off := 11) (tgt := 72) C (by decide +kernel) (by decide) (fun h5 => ?_) (fun h5 => ?_)
            · skip
              refine EV_blk (own := 10) C rfl [(.goto 14, 0, 0, 0, 0), (.iinc 5 1, 0, 0, 0, (nI 1)), (.goto (-86), 0, 0, 0, 0)] (pc' := 3) (by decide +kernel) (lv' := [some (.int dr), some (.int (nI mk)), some (.int (nI least)), some (.int cov), some (.int (nI 4)), some (.int ((nI (least + i)) + (nI 1))), some (.int (cov ||| (nI (least + i)))), some (.int (r_firstParts3 dr mk ((least + i) + 1) (cov ||| (nI (least + i)))))]) (st' := []) (I' := I) (J' := J) rfl ?_
              refine EV_fg (lv' := [some (.int dr), some (.int (nI mk)), some (.int (nI least)), some (.int cov), some (.int (nI 4)), some (.int ((nI (least + i)) + (nI 1))), none, none]) ⟨rfl, rfl, rfl, rfl, rfl, rfl, trivial⟩ ?_
              rw [show ((nI (least + i)) + (nI 1)) = (nI (least + (i + 1))) from by simp (disch := omega) only [nI_add, tq_mul] <;> exact congrArg nI (by omega)]
              exact ih (i + 1) (by omega) (hr.trans (tq_sr_none (show (f_fp4 dr mk least cov) i = none from by simp only [f_fp4, if_neg h1, if_neg h2, if_pos h3, if_neg h4, if_pos h5]))) kk
            · skip
              refine EV_blk (own := 10) C rfl [(.iload 7, 0, 0, 0, 0), (.iconst 1, 0, 0, 0, (nI 1)), (.iload 5, 0, 0, 0, 0), (.ishl, 0, 0, 0, 0), (.ior, 0, 0, 0, 0)] (pc' := 71) (by decide +kernel) (lv' := [some (.int dr), some (.int (nI mk)), some (.int (nI least)), some (.int cov), some (.int (nI 4)), some (.int (nI (least + i))), some (.int (cov ||| (nI (least + i)))), some (.int (r_firstParts3 dr mk ((least + i) + 1) (cov ||| (nI (least + i)))))]) (st' := [.int ((r_firstParts3 dr mk ((least + i) + 1) (cov ||| (nI (least + i)))) ||| ((nI 1) <<< ((nI (least + i)) &&& 31)))]) (I' := I) (J' := J) rfl ?_
              exact EV_iret C hZ rfl (by decide +kernel) (Nat.le_refl _) (Nat.le_refl _) ⟨tq_some ((hr.trans (tq_sr_some (show (f_fp4 dr mk least cov) i = some ((r_firstParts3 dr mk ((least + i) + 1) (cov ||| (nI (least + i)))) ||| ((nI 1) <<< ((nI (least + i)) &&& 31))) from by simp only [f_fp4, if_neg h1, if_neg h2, if_pos h3, if_neg h4, if_neg h5]))).symm), rfl, rfl, rfl, rfl⟩
        · skip
          refine EV_blk (own := 10) C rfl [(.goto 59, 0, 0, 0, 0), (.iinc 5 1, 0, 0, 0, (nI 1)), (.goto (-86), 0, 0, 0, 0)] (pc' := 3) (by decide +kernel) (lv' := [some (.int dr), some (.int (nI mk)), some (.int (nI least)), some (.int cov), some (.int (nI 4)), some (.int ((nI (least + i)) + (nI 1))), none, none]) (st' := []) (I' := I) (J' := J) rfl ?_
          rw [show ((nI (least + i)) + (nI 1)) = (nI (least + (i + 1))) from by simp (disch := omega) only [nI_add, tq_mul] <;> exact congrArg nI (by omega)]
          exact ih (i + 1) (by omega) (hr.trans (tq_sr_none (show (f_fp4 dr mk least cov) i = none from by simp only [f_fp4, if_neg h1, if_neg h2, if_neg h3]))) kk
def r_firstParts4 (dr : Int32) (mk least : Nat) (cov : Int32) : Int32 := (tq_sr (f_fp4 dr mk least cov) (mk + 1 - least) 0 (nI 0))
set_option maxRecDepth 20000 in
theorem c_firstParts4 (g : tq_G) (rest : List tq_S) (I : tq_I) (J : Int64) (dr : Int32) (mk least : Nat) (cov : Int32) (hmk : mk ≤ 15) (hls : least ≤ mk + 1) : CT g mX10_firstParts 4 0 0 [.int dr, .int (nI mk), .int (nI least), .int cov, .int (nI 4)] (tq_SC ++ rest) tq_RR I J (tq_ret (tq_SC ++ rest) tq_RR (some (.int (r_firstParts4 dr mk least cov))) I J) := by
  refine CT.ret kX10_firstParts (Nat.le_of_ble_eq_true rfl) (fun x0 C hR hZ => ?_)
  refine EV_en (lv' := [some (.int dr), some (.int (nI mk)), some (.int (nI least)), some (.int cov), some (.int (nI 4)), none, none, none]) 3 rfl ?_
  refine EV_blk (own := 10) C rfl [(.iload_n 2, 0, 0, 0, 0), (.istore 5, 0, 0, 0, 0)] (pc' := 3) (by decide +kernel) (lv' := [some (.int dr), some (.int (nI mk)), some (.int (nI least)), some (.int cov), some (.int (nI 4)), some (.int (nI least)), none, none]) (st' := []) (I' := I) (J' := J) rfl ?_
  refine lp_fp4 I J C hR hZ dr mk least cov hmk hls (mk + 1 - least) 0 (by omega) (by simp only [r_firstParts4]) (fun hd => ?_)
  refine EV_blk (own := 10) C rfl [(.iconst 0, 0, 0, 0, (nI 0))] (pc' := 93) (by decide +kernel) (lv' := [some (.int dr), some (.int (nI mk)), some (.int (nI least)), some (.int cov), some (.int (nI 4)), none, none, none]) (st' := [.int (nI 0)]) (I' := I) (J' := J) rfl ?_
  exact EV_iret C hZ rfl (by decide +kernel) (Nat.le_refl _) (Nat.le_refl _) ⟨tq_some hd.symm, rfl, rfl, rfl, rfl⟩
def r_X10_fewestParts (dr : Int32) (mk : Nat) : Int32 := (if (r_firstParts1 dr mk 1 (nI 0)) = 0 then (if (r_firstParts2 dr mk 1 (nI 0)) = 0 then (if (r_firstParts3 dr mk 1 (nI 0)) = 0 then (if (r_firstParts4 dr mk 1 (nI 0)) = 0 then (nI 32768) else (r_firstParts4 dr mk 1 (nI 0))) else (r_firstParts3 dr mk 1 (nI 0))) else (r_firstParts2 dr mk 1 (nI 0))) else (r_firstParts1 dr mk 1 (nI 0)))
set_option maxRecDepth 20000 in
theorem c_X10_fewestParts (g : tq_G) (rest : List tq_S) (I : tq_I) (J : Int64) (dr : Int32) (mk : Nat) (hmk : mk ≤ 15) : CT g mX10_fewestParts 5 0 0 [.int dr, .int (nI mk)] (tq_SC ++ rest) tq_RR I J (tq_ret (tq_SC ++ rest) tq_RR (some (.int (r_X10_fewestParts dr mk))) I J) := by
  refine CT.ret kX10_fewestParts (Nat.le_of_ble_eq_true rfl) (fun x0 C hR hZ => ?_)
  refine EV_en (lv' := [some (.int dr), some (.int (nI mk)), none, none]) 2 rfl ?_
  refine EV_blk (own := 10) C rfl [(.iconst 1, 0, 0, 0, (nI 1)), (.istore_n 2, 0, 0, 0, 0)] (pc' := 2) (by decide +kernel) (lv' := [some (.int dr), some (.int (nI mk)), some (.int (nI 1)), none]) (st' := []) (I' := I) (J' := J) rfl ?_
  refine EV_blk (own := 10) C rfl [(.iload_n 2, 0, 0, 0, 0), (.iconst 4, 0, 0, 0, (nI 4))] (pc' := 4) (by decide +kernel) (lv' := [some (.int dr), some (.int (nI mk)), some (.int (nI 1)), none]) (st' := [.int (nI 4), .int (nI 1)]) (I' := I) (J' := J) rfl ?_
  refine EV_icmp_gt (off := 24) (tgt := 28) C (by decide +kernel) (by decide) (fun h1 => ?_) (fun h1 => ?_)
  · skip
    exact absurd h1 (by decide)
  · skip
    refine EV_blk (own := 10) C rfl [(.iload_n 0, 0, 0, 0, 0), (.iload_n 1, 0, 0, 0, 0), (.iconst 1, 0, 0, 0, (nI 1)), (.iconst 0, 0, 0, 0, (nI 0)), (.iload_n 2, 0, 0, 0, 0)] (pc' := 12) (by decide +kernel) (lv' := [some (.int dr), some (.int (nI mk)), some (.int (nI 1)), none]) (st' := [.int (nI 1), .int (nI 0), .int (nI 1), .int (nI mk), .int dr]) (I' := I) (J' := J) rfl ?_
    refine EV_cS (own := 10) (idx := 40) (μ' := mX10_firstParts) (av := [.int dr, .int (nI mk), .int (nI 1), .int (nI 0), .int (nI 1)]) (rest := []) C hR rfl (Or.inl ⟨626, by decide⟩) kX10_firstParts sX10_firstParts (c_firstParts1 g rest I J dr mk 1 (nI 0) (by omega) (by omega)) (by decide +kernel) rfl (by decide) (Nat.le_of_ble_eq_true rfl) rfl ⟨Nat.zero_le _, Nat.zero_le _⟩ ?_
    refine EV_blk (own := 10) C rfl [(.istore_n 3, 0, 0, 0, 0), (.iload_n 3, 0, 0, 0, 0)] (pc' := 17) (by decide +kernel) (lv' := [some (.int dr), some (.int (nI mk)), some (.int (nI 1)), some (.int (r_firstParts1 dr mk 1 (nI 0)))]) (st' := [.int (r_firstParts1 dr mk 1 (nI 0))]) (I' := I) (J' := J) rfl ?_
    refine EV_if_eq (off := 5) (tgt := 22) C (by decide +kernel) (by decide) (fun h2 => ?_) (fun h2 => ?_)
    · skip
      refine EV_blk (own := 10) C rfl [(.iinc 2 1, 0, 0, 0, (nI 1)), (.goto (-23), 0, 0, 0, 0)] (pc' := 2) (by decide +kernel) (lv' := [some (.int dr), some (.int (nI mk)), some (.int ((nI 1) + (nI 1))), some (.int (r_firstParts1 dr mk 1 (nI 0)))]) (st' := []) (I' := I) (J' := J) rfl ?_
      refine EV_lve (lv' := [some (.int dr), some (.int (nI mk)), some (.int (nI 2)), some (.int (r_firstParts1 dr mk 1 (nI 0)))]) (by rw [show ((nI 1) + (nI 1)) = (nI 2) from by decide]) ?_
      refine EV_blk (own := 10) C rfl [(.iload_n 2, 0, 0, 0, 0), (.iconst 4, 0, 0, 0, (nI 4))] (pc' := 4) (by decide +kernel) (lv' := [some (.int dr), some (.int (nI mk)), some (.int (nI 2)), some (.int (r_firstParts1 dr mk 1 (nI 0)))]) (st' := [.int (nI 4), .int (nI 2)]) (I' := I) (J' := J) rfl ?_
      refine EV_icmp_gt (off := 24) (tgt := 28) C (by decide +kernel) (by decide) (fun h3 => ?_) (fun h3 => ?_)
      · skip
        exact absurd h3 (by decide)
      · skip
        refine EV_blk (own := 10) C rfl [(.iload_n 0, 0, 0, 0, 0), (.iload_n 1, 0, 0, 0, 0), (.iconst 1, 0, 0, 0, (nI 1)), (.iconst 0, 0, 0, 0, (nI 0)), (.iload_n 2, 0, 0, 0, 0)] (pc' := 12) (by decide +kernel) (lv' := [some (.int dr), some (.int (nI mk)), some (.int (nI 2)), some (.int (r_firstParts1 dr mk 1 (nI 0)))]) (st' := [.int (nI 2), .int (nI 0), .int (nI 1), .int (nI mk), .int dr]) (I' := I) (J' := J) rfl ?_
        refine EV_cS (own := 10) (idx := 40) (μ' := mX10_firstParts) (av := [.int dr, .int (nI mk), .int (nI 1), .int (nI 0), .int (nI 2)]) (rest := []) C hR rfl (Or.inl ⟨626, by decide⟩) kX10_firstParts sX10_firstParts (c_firstParts2 g rest I J dr mk 1 (nI 0) (by omega) (by omega)) (by decide +kernel) rfl (by decide) (Nat.le_of_ble_eq_true rfl) rfl ⟨Nat.zero_le _, Nat.zero_le _⟩ ?_
        refine EV_blk (own := 10) C rfl [(.istore_n 3, 0, 0, 0, 0), (.iload_n 3, 0, 0, 0, 0)] (pc' := 17) (by decide +kernel) (lv' := [some (.int dr), some (.int (nI mk)), some (.int (nI 2)), some (.int (r_firstParts2 dr mk 1 (nI 0)))]) (st' := [.int (r_firstParts2 dr mk 1 (nI 0))]) (I' := I) (J' := J) rfl ?_
        refine EV_if_eq (off := 5) (tgt := 22) C (by decide +kernel) (by decide) (fun h4 => ?_) (fun h4 => ?_)
        · skip
          refine EV_blk (own := 10) C rfl [(.iinc 2 1, 0, 0, 0, (nI 1)), (.goto (-23), 0, 0, 0, 0)] (pc' := 2) (by decide +kernel) (lv' := [some (.int dr), some (.int (nI mk)), some (.int ((nI 2) + (nI 1))), some (.int (r_firstParts2 dr mk 1 (nI 0)))]) (st' := []) (I' := I) (J' := J) rfl ?_
          refine EV_lve (lv' := [some (.int dr), some (.int (nI mk)), some (.int (nI 3)), some (.int (r_firstParts2 dr mk 1 (nI 0)))]) (by rw [show ((nI 2) + (nI 1)) = (nI 3) from by decide]) ?_
          refine EV_blk (own := 10) C rfl [(.iload_n 2, 0, 0, 0, 0), (.iconst 4, 0, 0, 0, (nI 4))] (pc' := 4) (by decide +kernel) (lv' := [some (.int dr), some (.int (nI mk)), some (.int (nI 3)), some (.int (r_firstParts2 dr mk 1 (nI 0)))]) (st' := [.int (nI 4), .int (nI 3)]) (I' := I) (J' := J) rfl ?_
          refine EV_icmp_gt (off := 24) (tgt := 28) C (by decide +kernel) (by decide) (fun h5 => ?_) (fun h5 => ?_)
          · skip
            exact absurd h5 (by decide)
          · skip
            refine EV_blk (own := 10) C rfl [(.iload_n 0, 0, 0, 0, 0), (.iload_n 1, 0, 0, 0, 0), (.iconst 1, 0, 0, 0, (nI 1)), (.iconst 0, 0, 0, 0, (nI 0)), (.iload_n 2, 0, 0, 0, 0)] (pc' := 12) (by decide +kernel) (lv' := [some (.int dr), some (.int (nI mk)), some (.int (nI 3)), some (.int (r_firstParts2 dr mk 1 (nI 0)))]) (st' := [.int (nI 3), .int (nI 0), .int (nI 1), .int (nI mk), .int dr]) (I' := I) (J' := J) rfl ?_
            refine EV_cS (own := 10) (idx := 40) (μ' := mX10_firstParts) (av := [.int dr, .int (nI mk), .int (nI 1), .int (nI 0), .int (nI 3)]) (rest := []) C hR rfl (Or.inl ⟨626, by decide⟩) kX10_firstParts sX10_firstParts (c_firstParts3 g rest I J dr mk 1 (nI 0) (by omega) (by omega)) (by decide +kernel) rfl (by decide) (Nat.le_of_ble_eq_true rfl) rfl ⟨Nat.zero_le _, Nat.zero_le _⟩ ?_
            refine EV_blk (own := 10) C rfl [(.istore_n 3, 0, 0, 0, 0), (.iload_n 3, 0, 0, 0, 0)] (pc' := 17) (by decide +kernel) (lv' := [some (.int dr), some (.int (nI mk)), some (.int (nI 3)), some (.int (r_firstParts3 dr mk 1 (nI 0)))]) (st' := [.int (r_firstParts3 dr mk 1 (nI 0))]) (I' := I) (J' := J) rfl ?_
            refine EV_if_eq (off := 5) (tgt := 22) C (by decide +kernel) (by decide) (fun h6 => ?_) (fun h6 => ?_)
            · skip
              refine EV_blk (own := 10) C rfl [(.iinc 2 1, 0, 0, 0, (nI 1)), (.goto (-23), 0, 0, 0, 0)] (pc' := 2) (by decide +kernel) (lv' := [some (.int dr), some (.int (nI mk)), some (.int ((nI 3) + (nI 1))), some (.int (r_firstParts3 dr mk 1 (nI 0)))]) (st' := []) (I' := I) (J' := J) rfl ?_
              refine EV_lve (lv' := [some (.int dr), some (.int (nI mk)), some (.int (nI 4)), some (.int (r_firstParts3 dr mk 1 (nI 0)))]) (by rw [show ((nI 3) + (nI 1)) = (nI 4) from by decide]) ?_
              refine EV_blk (own := 10) C rfl [(.iload_n 2, 0, 0, 0, 0), (.iconst 4, 0, 0, 0, (nI 4))] (pc' := 4) (by decide +kernel) (lv' := [some (.int dr), some (.int (nI mk)), some (.int (nI 4)), some (.int (r_firstParts3 dr mk 1 (nI 0)))]) (st' := [.int (nI 4), .int (nI 4)]) (I' := I) (J' := J) rfl ?_
              refine EV_icmp_gt (off := 24) (tgt := 28) C (by decide +kernel) (by decide) (fun h7 => ?_) (fun h7 => ?_)
              · skip
                exact absurd h7 (by decide)
              · skip
                refine EV_blk (own := 10) C rfl [(.iload_n 0, 0, 0, 0, 0), (.iload_n 1, 0, 0, 0, 0), (.iconst 1, 0, 0, 0, (nI 1)), (.iconst 0, 0, 0, 0, (nI 0)), (.iload_n 2, 0, 0, 0, 0)] (pc' := 12) (by decide +kernel) (lv' := [some (.int dr), some (.int (nI mk)), some (.int (nI 4)), some (.int (r_firstParts3 dr mk 1 (nI 0)))]) (st' := [.int (nI 4), .int (nI 0), .int (nI 1), .int (nI mk), .int dr]) (I' := I) (J' := J) rfl ?_
                refine EV_cS (own := 10) (idx := 40) (μ' := mX10_firstParts) (av := [.int dr, .int (nI mk), .int (nI 1), .int (nI 0), .int (nI 4)]) (rest := []) C hR rfl (Or.inl ⟨626, by decide⟩) kX10_firstParts sX10_firstParts (c_firstParts4 g rest I J dr mk 1 (nI 0) (by omega) (by omega)) (by decide +kernel) rfl (by decide) (Nat.le_of_ble_eq_true rfl) rfl ⟨Nat.zero_le _, Nat.zero_le _⟩ ?_
                refine EV_blk (own := 10) C rfl [(.istore_n 3, 0, 0, 0, 0), (.iload_n 3, 0, 0, 0, 0)] (pc' := 17) (by decide +kernel) (lv' := [some (.int dr), some (.int (nI mk)), some (.int (nI 4)), some (.int (r_firstParts4 dr mk 1 (nI 0)))]) (st' := [.int (r_firstParts4 dr mk 1 (nI 0))]) (I' := I) (J' := J) rfl ?_
                refine EV_if_eq (off := 5) (tgt := 22) C (by decide +kernel) (by decide) (fun h8 => ?_) (fun h8 => ?_)
                · skip
                  refine EV_blk (own := 10) C rfl [(.iinc 2 1, 0, 0, 0, (nI 1)), (.goto (-23), 0, 0, 0, 0)] (pc' := 2) (by decide +kernel) (lv' := [some (.int dr), some (.int (nI mk)), some (.int ((nI 4) + (nI 1))), some (.int (r_firstParts4 dr mk 1 (nI 0)))]) (st' := []) (I' := I) (J' := J) rfl ?_
                  refine EV_lve (lv' := [some (.int dr), some (.int (nI mk)), some (.int (nI 5)), some (.int (r_firstParts4 dr mk 1 (nI 0)))]) (by rw [show ((nI 4) + (nI 1)) = (nI 5) from by decide]) ?_
                  refine EV_blk (own := 10) C rfl [(.iload_n 2, 0, 0, 0, 0), (.iconst 4, 0, 0, 0, (nI 4))] (pc' := 4) (by decide +kernel) (lv' := [some (.int dr), some (.int (nI mk)), some (.int (nI 5)), some (.int (r_firstParts4 dr mk 1 (nI 0)))]) (st' := [.int (nI 4), .int (nI 5)]) (I' := I) (J' := J) rfl ?_
                  refine EV_icmp_gt (off := 24) (tgt := 28) C (by decide +kernel) (by decide) (fun h9 => ?_) (fun h9 => ?_)
                  · skip
                    refine EV_blk (own := 10) C rfl [(.ldc 25, 0, 0, 612, (nI 32768))] (pc' := 30) (by decide +kernel) (lv' := [some (.int dr), some (.int (nI mk)), some (.int (nI 5)), some (.int (r_firstParts4 dr mk 1 (nI 0)))]) (st' := [.int (nI 32768)]) (I' := I) (J' := J) rfl ?_
                    exact EV_iret C hZ rfl (by decide +kernel) (Nat.le_refl _) (Nat.le_refl _) ⟨tq_some (by simp only [r_X10_fewestParts, if_neg h1, if_pos h2, if_neg h3, if_pos h4, if_neg h5, if_pos h6, if_neg h7, if_pos h8, if_pos h9]), rfl, rfl, rfl, rfl⟩
                  · skip
                    exact absurd (by decide) h9
                · skip
                  refine EV_blk (own := 10) C rfl [(.iload_n 3, 0, 0, 0, 0)] (pc' := 21) (by decide +kernel) (lv' := [some (.int dr), some (.int (nI mk)), some (.int (nI 4)), some (.int (r_firstParts4 dr mk 1 (nI 0)))]) (st' := [.int (r_firstParts4 dr mk 1 (nI 0))]) (I' := I) (J' := J) rfl ?_
                  exact EV_iret C hZ rfl (by decide +kernel) (Nat.le_refl _) (Nat.le_refl _) ⟨tq_some (by simp only [r_X10_fewestParts, if_neg h1, if_pos h2, if_neg h3, if_pos h4, if_neg h5, if_pos h6, if_neg h7, if_neg h8]), rfl, rfl, rfl, rfl⟩
            · skip
              refine EV_blk (own := 10) C rfl [(.iload_n 3, 0, 0, 0, 0)] (pc' := 21) (by decide +kernel) (lv' := [some (.int dr), some (.int (nI mk)), some (.int (nI 3)), some (.int (r_firstParts3 dr mk 1 (nI 0)))]) (st' := [.int (r_firstParts3 dr mk 1 (nI 0))]) (I' := I) (J' := J) rfl ?_
              exact EV_iret C hZ rfl (by decide +kernel) (Nat.le_refl _) (Nat.le_refl _) ⟨tq_some (by simp only [r_X10_fewestParts, if_neg h1, if_pos h2, if_neg h3, if_pos h4, if_neg h5, if_neg h6]), rfl, rfl, rfl, rfl⟩
        · skip
          refine EV_blk (own := 10) C rfl [(.iload_n 3, 0, 0, 0, 0)] (pc' := 21) (by decide +kernel) (lv' := [some (.int dr), some (.int (nI mk)), some (.int (nI 2)), some (.int (r_firstParts2 dr mk 1 (nI 0)))]) (st' := [.int (r_firstParts2 dr mk 1 (nI 0))]) (I' := I) (J' := J) rfl ?_
          exact EV_iret C hZ rfl (by decide +kernel) (Nat.le_refl _) (Nat.le_refl _) ⟨tq_some (by simp only [r_X10_fewestParts, if_neg h1, if_pos h2, if_neg h3, if_neg h4]), rfl, rfl, rfl, rfl⟩
    · skip
      refine EV_blk (own := 10) C rfl [(.iload_n 3, 0, 0, 0, 0)] (pc' := 21) (by decide +kernel) (lv' := [some (.int dr), some (.int (nI mk)), some (.int (nI 1)), some (.int (r_firstParts1 dr mk 1 (nI 0)))]) (st' := [.int (r_firstParts1 dr mk 1 (nI 0))]) (I' := I) (J' := J) rfl ?_
      exact EV_iret C hZ rfl (by decide +kernel) (Nat.le_refl _) (Nat.le_refl _) ⟨tq_some (by simp only [r_X10_fewestParts, if_neg h1, if_neg h2]), rfl, rfl, rfl, rfl⟩
def f_ch1 (I : tq_I) (t : Nat) (s : Int32) (i : Nat) (a : Int32) : Int32 := (if (r_X10_wayOf I t (1 + i)) = (-1) then a else (a ||| ((nI 1) <<< ((nI (1 + i)) &&& 31))))
set_option maxRecDepth 20000 in
theorem lp_ch1 {g : tq_G} {rest : List tq_S} {x0 : tq_X} (C : tq_C g mX10_choose x0) (hR : tq_ht x0 6 0 0) (I : tq_I) (J : Int64) (t : Nat) (s : Int32) (ht : t ≤ 5) : ∀ (n i : Nat) (a : Int32), i + n = 15 → EV g mX10_choose x0 0 0 49 [some (.ref 9), some (.int (nI t)), some (.int s), some (.int (tq_it (f_ch1 I t s) n i a)), some (.int (nI (1 + (i + n))))] [] (tq_SC ++ rest) tq_RR I J → EV g mX10_choose x0 0 0 18 [some (.ref 9), some (.int (nI t)), some (.int s), some (.int a), some (.int (nI (1 + i)))] [] (tq_SC ++ rest) tq_RR I J := by
  intro n
  induction n with
  | zero =>
    intro i a hi kk
    rw [Nat.add_zero] at kk
    refine EV_blk (own := 10) C rfl [(.iload 4, 0, 0, 0, 0), (.bipush 16, 0, 0, 0, (nI 16))] (pc' := 22) (by decide +kernel) (lv' := [some (.ref 9), some (.int (nI t)), some (.int s), some (.int a), some (.int (nI (1 + i)))]) (st' := [.int (nI 16), .int (nI (1 + i))]) (I' := I) (J' := J) rfl ?_
    refine EV_icmp_ge (off := 27) (tgt := 49) C (by decide +kernel) (by decide) (fun h1 => ?_) (fun h1 => ?_)
    · skip
      exact kk
    · skip
      exact absurd h1 (by simp (disch := omega) only [Int32.lt_iff_toInt_lt, Int32.le_iff_toInt_le, Int32.toInt_zero, nI_toInt, tq_m1]; omega)
  | succ n ih =>
    intro i a hi kk
    rw [show i + (n + 1) = (i + 1) + n by omega] at kk
    refine EV_blk (own := 10) C rfl [(.iload 4, 0, 0, 0, 0), (.bipush 16, 0, 0, 0, (nI 16))] (pc' := 22) (by decide +kernel) (lv' := [some (.ref 9), some (.int (nI t)), some (.int s), some (.int a), some (.int (nI (1 + i)))]) (st' := [.int (nI 16), .int (nI (1 + i))]) (I' := I) (J' := J) rfl ?_
    refine EV_icmp_ge (off := 27) (tgt := 49) C (by decide +kernel) (by decide) (fun h1 => ?_) (fun h1 => ?_)
    · skip
      exact absurd h1 (by simp (disch := omega) only [Int32.lt_iff_toInt_lt, Int32.le_iff_toInt_le, Int32.toInt_zero, nI_toInt, tq_m1]; omega)
    · skip
      refine EV_blk (own := 10) C rfl [(.aload_n 0, 0, 0, 0, 0), (.iload_n 1, 0, 0, 0, 0), (.iload 4, 0, 0, 0, 0)] (pc' := 29) (by decide +kernel) (lv' := [some (.ref 9), some (.int (nI t)), some (.int s), some (.int a), some (.int (nI (1 + i)))]) (st' := [.int (nI (1 + i)), .int (nI t), .ref 9]) (I' := I) (J' := J) rfl ?_
      refine EV_cV (own := 10) (idx := 26) (μ' := mX10_wayOf) (b := 9) (cb := 10) (av := [.int (nI t), .int (nI (1 + i))]) (rest := []) C hR rfl (Or.inl ⟨613, by decide⟩) kX10_wayOf sX10_wayOf (c_X10_wayOf g rest I J t (1 + i) (by omega)) rfl rfl (by decide +kernel) rfl (by decide) (Nat.le_of_ble_eq_true rfl) rfl ⟨Nat.zero_le _, Nat.zero_le _⟩ ?_
      refine EV_blk (own := 10) C rfl [(.iconst (-1), 0, 0, 0, (-1))] (pc' := 33) (by decide +kernel) (lv' := [some (.ref 9), some (.int (nI t)), some (.int s), some (.int a), some (.int (nI (1 + i)))]) (st' := [.int (-1), .int (r_X10_wayOf I t (1 + i))]) (I' := I) (J' := J) rfl ?_
      refine EV_icmp_eq (off := 10) (tgt := 43) C (by decide +kernel) (by decide) (fun h2 => ?_) (fun h2 => ?_)
      · skip
        refine EV_blk (own := 10) C rfl [(.iinc 4 1, 0, 0, 0, (nI 1)), (.goto (-28), 0, 0, 0, 0)] (pc' := 18) (by decide +kernel) (lv' := [some (.ref 9), some (.int (nI t)), some (.int s), some (.int a), some (.int ((nI (1 + i)) + (nI 1)))]) (st' := []) (I' := I) (J' := J) rfl ?_
        rw [show ((nI (1 + i)) + (nI 1)) = (nI (1 + (i + 1))) from by simp (disch := omega) only [nI_add, tq_mul] <;> exact congrArg nI (by omega)]
        rw [tq_its, show (f_ch1 I t s) i a = a from by simp only [f_ch1, if_neg h1, if_pos h2]] at kk
        exact ih (i + 1) a (by omega) kk
      · skip
        refine EV_blk (own := 10) C rfl [(.iload_n 3, 0, 0, 0, 0), (.iconst 1, 0, 0, 0, (nI 1)), (.iload 4, 0, 0, 0, 0), (.ishl, 0, 0, 0, 0), (.ior, 0, 0, 0, 0), (.istore_n 3, 0, 0, 0, 0), (.iinc 4 1, 0, 0, 0, (nI 1)), (.goto (-28), 0, 0, 0, 0)] (pc' := 18) (by decide +kernel) (lv' := [some (.ref 9), some (.int (nI t)), some (.int s), some (.int (a ||| ((nI 1) <<< ((nI (1 + i)) &&& 31)))), some (.int ((nI (1 + i)) + (nI 1)))]) (st' := []) (I' := I) (J' := J) rfl ?_
        rw [show ((nI (1 + i)) + (nI 1)) = (nI (1 + (i + 1))) from by simp (disch := omega) only [nI_add, tq_mul] <;> exact congrArg nI (by omega)]
        rw [tq_its, show (f_ch1 I t s) i a = (a ||| ((nI 1) <<< ((nI (1 + i)) &&& 31))) from by simp only [f_ch1, if_neg h1, if_neg h2]] at kk
        exact ih (i + 1) (a ||| ((nI 1) <<< ((nI (1 + i)) &&& 31))) (by omega) kk
def f_ch2 (t : Nat) (s dr : Int32) (i : Nat) (a : tq_I) : tq_I := (tq_u a 11 ((t * 16) + (1 + i)) (r_X10_fewestParts dr (1 + i)))
set_option maxRecDepth 20000 in
theorem lp_ch2 {g : tq_G} {rest : List tq_S} {x0 : tq_X} (C : tq_C g mX10_choose x0) (hR : tq_ht x0 6 0 0) (J : Int64) (t : Nat) (s dr : Int32) (ht : t ≤ 5) : ∀ (n i : Nat) (a : tq_I), i + n = 15 → EV g mX10_choose x0 0 0 83 [some (.ref 9), some (.int (nI t)), some (.int s), some (.int dr), some (.int (nI (1 + (i + n))))] [] (tq_SC ++ rest) tq_RR (tq_it (f_ch2 t s dr) n i a) J → EV g mX10_choose x0 0 0 52 [some (.ref 9), some (.int (nI t)), some (.int s), some (.int dr), some (.int (nI (1 + i)))] [] (tq_SC ++ rest) tq_RR a J := by
  intro n
  induction n with
  | zero =>
    intro i a hi kk
    rw [Nat.add_zero] at kk
    refine EV_blk (own := 10) C rfl [(.iload 4, 0, 0, 0, 0), (.bipush 16, 0, 0, 0, (nI 16))] (pc' := 56) (by decide +kernel) (lv' := [some (.ref 9), some (.int (nI t)), some (.int s), some (.int dr), some (.int (nI (1 + i)))]) (st' := [.int (nI 16), .int (nI (1 + i))]) (I' := a) (J' := J) rfl ?_
    refine EV_icmp_ge (off := 27) (tgt := 83) C (by decide +kernel) (by decide) (fun h1 => ?_) (fun h1 => ?_)
    · skip
      exact kk
    · skip
      exact absurd h1 (by simp (disch := omega) only [Int32.lt_iff_toInt_lt, Int32.le_iff_toInt_le, Int32.toInt_zero, nI_toInt, tq_m1]; omega)
  | succ n ih =>
    intro i a hi kk
    rw [show i + (n + 1) = (i + 1) + n by omega] at kk
    refine EV_blk (own := 10) C rfl [(.iload 4, 0, 0, 0, 0), (.bipush 16, 0, 0, 0, (nI 16))] (pc' := 56) (by decide +kernel) (lv' := [some (.ref 9), some (.int (nI t)), some (.int s), some (.int dr), some (.int (nI (1 + i)))]) (st' := [.int (nI 16), .int (nI (1 + i))]) (I' := a) (J' := J) rfl ?_
    refine EV_icmp_ge (off := 27) (tgt := 83) C (by decide +kernel) (by decide) (fun h1 => ?_) (fun h1 => ?_)
    · skip
      exact absurd h1 (by simp (disch := omega) only [Int32.lt_iff_toInt_lt, Int32.le_iff_toInt_le, Int32.toInt_zero, nI_toInt, tq_m1]; omega)
    · skip
      refine EV_blk (own := 10) C rfl [(.aload_n 0, 0, 0, 0, 0), (.getfield 15, 10, 1, 132, 0), (.iload_n 1, 0, 0, 0, 0), (.bipush 16, 0, 0, 0, (nI 16)), (.imul, 0, 0, 0, 0), (.iload 4, 0, 0, 0, 0), (.iadd, 0, 0, 0, 0), (.iload_n 3, 0, 0, 0, 0), (.iload 4, 0, 0, 0, 0)] (pc' := 73) (by decide +kernel) (lv' := [some (.ref 9), some (.int (nI t)), some (.int s), some (.int dr), some (.int (nI (1 + i)))]) (st' := [.int (nI (1 + i)), .int dr, .int (((nI t) * (nI 16)) + (nI (1 + i))), .ref 11]) (I' := a) (J' := J) rfl ?_
      refine EV_cS (own := 10) (idx := 30) (μ' := mX10_fewestParts) (av := [.int dr, .int (nI (1 + i))]) (rest := [.int (((nI t) * (nI 16)) + (nI (1 + i))), .ref 11]) C hR rfl (Or.inl ⟨623, by decide⟩) kX10_fewestParts sX10_fewestParts (c_X10_fewestParts g rest a J dr (1 + i) (by omega)) (by decide +kernel) rfl (by decide) (Nat.le_of_ble_eq_true rfl) rfl ⟨Nat.zero_le _, Nat.zero_le _⟩ ?_
      refine EV_iast (j := ((t * 16) + (1 + i))) C (by decide +kernel) rfl (tq_toI ((t * 16) + (1 + i)) (by simp (disch := omega) only [nI_add, tq_mul, tq_rem_nI, tq_div_nI, tq_sub_nI]) (by omega)) (by omega) ?_
      refine EV_blk (own := 10) C rfl [(.iinc 4 1, 0, 0, 0, (nI 1)), (.goto (-28), 0, 0, 0, 0)] (pc' := 52) (by decide +kernel) (lv' := [some (.ref 9), some (.int (nI t)), some (.int s), some (.int dr), some (.int ((nI (1 + i)) + (nI 1)))]) (st' := []) (I' := (tq_u a 11 ((t * 16) + (1 + i)) (r_X10_fewestParts dr (1 + i)))) (J' := J) rfl ?_
      rw [show ((nI (1 + i)) + (nI 1)) = (nI (1 + (i + 1))) from by simp (disch := omega) only [nI_add, tq_mul] <;> exact congrArg nI (by omega)]
      rw [tq_its, show (f_ch2 t s dr) i a = (tq_u a 11 ((t * 16) + (1 + i)) (r_X10_fewestParts dr (1 + i))) from by simp only [f_ch2, if_neg h1]] at kk
      exact ih (i + 1) (tq_u a 11 ((t * 16) + (1 + i)) (r_X10_fewestParts dr (1 + i))) (by omega) kk
theorem fr_ch2 (t : Nat) (s dr : Int32) {cz : Nat} (hc : cz ≠ 11) (n i : Nat) (a : tq_I) (jz : Nat) : (tq_it (f_ch2 t s dr) n i a) cz jz = a cz jz := by
  have hc0 := hc
  refine tq_itF (fun i a j => ?_) n i a jz
  simp only [f_ch2]
  (repeat' split) <;> simp (disch := first | assumption | (simp only [ne_eq] at *; simp [*])) [tq_u, tq_cp, hc0, fr_tb1, fr_tb2, fr_X8_touchBlock, fr_X8_touchAll, fr_X8_changeCorner, fr_X8_changePath, fr_cb1, fr_cb2, fr_X8_changeBlock, fr_wipe1, fr_X1_wipe, fr_sm1, fr_sm2, fr_X8_startMap, fr_X6_place, fr_mt1, fr_mt2, fr_X6_moveTo]
def I_X10_choose (I : tq_I) (t : Nat) (s : Int32) : tq_I := (tq_it (f_ch2 t s (tq_it (f_ch1 (tq_u I 10 t ((s &&& (-2)) ||| (nI 32768))) t s) 15 0 (nI 0))) 15 0 (tq_u I 10 t ((s &&& (-2)) ||| (nI 32768))))
set_option maxRecDepth 20000 in
theorem c_X10_choose (g : tq_G) (rest : List tq_S) (I : tq_I) (J : Int64) (t : Nat) (s : Int32) (ht : t ≤ 5) : CT g mX10_choose 6 0 0 [.ref 9, .int (nI t), .int s] (tq_SC ++ rest) tq_RR I J (tq_ret (tq_SC ++ rest) tq_RR none (I_X10_choose I t s) J) := by
  refine CT.ret kX10_choose (Nat.le_of_ble_eq_true rfl) (fun x0 C hR hZ => ?_)
  refine EV_en (lv' := [some (.ref 9), some (.int (nI t)), some (.int s), none, none]) 2 rfl ?_
  refine EV_blk (own := 10) C rfl [(.aload_n 0, 0, 0, 0, 0), (.getfield 9, 10, 0, 131, 0), (.iload_n 1, 0, 0, 0, 0), (.iload_n 2, 0, 0, 0, 0), (.bipush (-2), 0, 0, 0, (-2)), (.iand, 0, 0, 0, 0), (.ldc 25, 0, 0, 612, (nI 32768)), (.ior, 0, 0, 0, 0)] (pc' := 12) (by decide +kernel) (lv' := [some (.ref 9), some (.int (nI t)), some (.int s), none, none]) (st' := [.int ((s &&& (-2)) ||| (nI 32768)), .int (nI t), .ref 10]) (I' := I) (J' := J) rfl ?_
  refine EV_iast (j := t) C (by decide +kernel) rfl (nI_toInt (by omega)) (by omega) ?_
  refine EV_blk (own := 10) C rfl [(.iconst 0, 0, 0, 0, (nI 0)), (.istore_n 3, 0, 0, 0, 0), (.iconst 1, 0, 0, 0, (nI 1)), (.istore 4, 0, 0, 0, 0)] (pc' := 18) (by decide +kernel) (lv' := [some (.ref 9), some (.int (nI t)), some (.int s), some (.int (nI 0)), some (.int (nI 1))]) (st' := []) (I' := (tq_u I 10 t ((s &&& (-2)) ||| (nI 32768)))) (J' := J) rfl ?_
  refine lp_ch1 C hR (tq_u I 10 t ((s &&& (-2)) ||| (nI 32768))) J t s ht 15 0 (nI 0) (by omega) ?_
  refine EV_blk (own := 10) C rfl [(.iconst 1, 0, 0, 0, (nI 1)), (.istore 4, 0, 0, 0, 0)] (pc' := 52) (by decide +kernel) (lv' := [some (.ref 9), some (.int (nI t)), some (.int s), some (.int (tq_it (f_ch1 (tq_u I 10 t ((s &&& (-2)) ||| (nI 32768))) t s) 15 0 (nI 0))), some (.int (nI 1))]) (st' := []) (I' := (tq_u I 10 t ((s &&& (-2)) ||| (nI 32768)))) (J' := J) rfl ?_
  refine lp_ch2 C hR J t s (tq_it (f_ch1 (tq_u I 10 t ((s &&& (-2)) ||| (nI 32768))) t s) 15 0 (nI 0)) ht 15 0 (tq_u I 10 t ((s &&& (-2)) ||| (nI 32768))) (by omega) ?_
  exact EV_vret C hZ rfl (by decide +kernel) (Nat.le_refl _) (Nat.le_refl _) ⟨rfl, rfl, rfl, by simp only [I_X10_choose], rfl⟩
theorem fr_X10_choose (I : tq_I) (t : Nat) (s : Int32) {cz : Nat} (hc : cz ≠ 10 ∧ cz ≠ 11) (jz : Nat) : I_X10_choose I t s cz jz = I cz jz := by
  obtain ⟨hc0, hc1⟩ := hc
  simp only [I_X10_choose]
  (repeat' split) <;> simp (disch := first | assumption | (simp only [ne_eq] at *; simp [*])) [tq_u, tq_cp, hc0, hc1, fr_tb1, fr_tb2, fr_X8_touchBlock, fr_X8_touchAll, fr_X8_changeCorner, fr_X8_changePath, fr_cb1, fr_cb2, fr_X8_changeBlock, fr_wipe1, fr_X1_wipe, fr_sm1, fr_sm2, fr_X8_startMap, fr_X6_place, fr_mt1, fr_mt2, fr_X6_moveTo, fr_ch2]
def f_shows1 (I : tq_I) (c p : Nat) (i : Nat) : Option Int32 := (if (I 14 (c * 7 + i)) = (I 106 i) then none else (some (nI 0)))
set_option maxRecDepth 20000 in
theorem lp_shows1 {g : tq_G} {rest : List tq_S} {x0 : tq_X} {res : Int32} (I : tq_I) (J : Int64) (C : tq_C g mX1_shows x0) (hR : tq_ht x0 1 0 0) (hZ : tq_end g x0 (tq_ret (tq_SC ++ rest) tq_RR (some (.int res)) I J) 0 0) (c p : Nat) (hc : c ≤ 99) (hp : I 102 5 = nI p) (hp7 : p ≤ 7) : ∀ (n i : Nat), i + n = p → res = tq_sr (f_shows1 I c p) n i (nI 1) → (res = (nI 1) → EV g mX1_shows x0 0 0 61 [some (.ref 12), some (.int (nI c)), some (.ref 102), none] [] (tq_SC ++ rest) tq_RR I J) → EV g mX1_shows x0 0 0 30 [some (.ref 12), some (.int (nI c)), some (.ref 102), some (.int (nI i))] [] (tq_SC ++ rest) tq_RR I J := by
  intro n
  induction n with
  | zero =>
    intro i hi hr kk
    refine EV_blk (own := 1) C rfl [(.iload_n 3, 0, 0, 0, 0), (.aload_n 2, 0, 0, 0, 0), (.getfield 30, 7, 5, 261, 0)] (pc' := 35) (by decide +kernel) (lv' := [some (.ref 12), some (.int (nI c)), some (.ref 102), some (.int (nI i))]) (st' := [.int (I 102 5), .int (nI i)]) (I' := I) (J' := J) rfl ?_
    refine EV_icmp_ge (off := 26) (tgt := 61) C (by decide +kernel) (by decide) (fun h1 => ?_) (fun h1 => ?_)
    · skip
      exact EV_fg (lv' := [some (.ref 12), some (.int (nI c)), some (.ref 102), none]) ⟨rfl, rfl, rfl, trivial⟩ (kk hr)
    · skip
      exact absurd h1 (by simp (disch := omega) only [Int32.lt_iff_toInt_lt, Int32.le_iff_toInt_le, Int32.toInt_zero, nI_toInt, tq_m1, hp]; omega)
  | succ n ih =>
    intro i hi hr kk
    refine EV_blk (own := 1) C rfl [(.iload_n 3, 0, 0, 0, 0), (.aload_n 2, 0, 0, 0, 0), (.getfield 30, 7, 5, 261, 0)] (pc' := 35) (by decide +kernel) (lv' := [some (.ref 12), some (.int (nI c)), some (.ref 102), some (.int (nI i))]) (st' := [.int (I 102 5), .int (nI i)]) (I' := I) (J' := J) rfl ?_
    refine EV_icmp_ge (off := 26) (tgt := 61) C (by decide +kernel) (by decide) (fun h1 => ?_) (fun h1 => ?_)
    · skip
      exact absurd h1 (by simp (disch := omega) only [Int32.lt_iff_toInt_lt, Int32.le_iff_toInt_le, Int32.toInt_zero, nI_toInt, tq_m1, hp]; omega)
    · skip
      refine EV_blk (own := 1) C rfl [(.aload_n 0, 0, 0, 0, 0), (.iload_n 1, 0, 0, 0, 0), (.iload_n 3, 0, 0, 0, 0)] (pc' := 41) (by decide +kernel) (lv' := [some (.ref 12), some (.int (nI c)), some (.ref 102), some (.int (nI i))]) (st' := [.int (nI i), .int (nI c), .ref 12]) (I' := I) (J' := J) rfl ?_
      refine EV_cV (own := 1) (idx := 39) (μ' := mX1_codeAt) (b := 12) (cb := 1) (av := [.int (nI c), .int (nI i)]) (rest := []) C hR rfl (Or.inl ⟨732, by decide⟩) kX1_codeAt sX1_codeAt (c_X1_codeAt g rest I J c i (by omega) (by omega)) rfl rfl (by decide +kernel) rfl (by decide) (Nat.le_of_ble_eq_true rfl) rfl ⟨Nat.zero_le _, Nat.zero_le _⟩ ?_
      refine EV_blk (own := 1) C rfl [(.aload_n 2, 0, 0, 0, 0), (.getfield 43, 7, 4, 258, 0), (.iload_n 3, 0, 0, 0, 0)] (pc' := 49) (by decide +kernel) (lv' := [some (.ref 12), some (.int (nI c)), some (.ref 102), some (.int (nI i))]) (st' := [.int (nI i), .ref 106, .int (I 14 (c * 7 + i))]) (I' := I) (J' := J) rfl ?_
      refine EV_iald (j := i) C (by decide +kernel) rfl (nI_toInt (by omega)) (by omega) ?_
      refine EV_icmp_eq (off := 5) (tgt := 55) C (by decide +kernel) (by decide) (fun h2 => ?_) (fun h2 => ?_)
      · skip
        refine EV_blk (own := 1) C rfl [(.iinc 3 1, 0, 0, 0, (nI 1)), (.goto (-28), 0, 0, 0, 0)] (pc' := 30) (by decide +kernel) (lv' := [some (.ref 12), some (.int (nI c)), some (.ref 102), some (.int ((nI i) + (nI 1)))]) (st' := []) (I' := I) (J' := J) rfl ?_
        rw [show ((nI i) + (nI 1)) = (nI (i + 1)) from by simp (disch := omega) only [nI_add, tq_mul] <;> exact congrArg nI (by omega)]
        exact ih (i + 1) (by omega) (hr.trans (tq_sr_none (show (f_shows1 I c p) i = none from by simp only [f_shows1, if_neg h1, if_pos h2]))) kk
      · skip
        refine EV_blk (own := 1) C rfl [(.iconst 0, 0, 0, 0, (nI 0))] (pc' := 54) (by decide +kernel) (lv' := [some (.ref 12), some (.int (nI c)), some (.ref 102), some (.int (nI i))]) (st' := [.int (nI 0)]) (I' := I) (J' := J) rfl ?_
        exact EV_zret C hZ rfl (by decide) (by decide +kernel) (Nat.le_refl _) (Nat.le_refl _) ⟨tq_some ((hr.trans (tq_sr_some (show (f_shows1 I c p) i = some (nI 0) from by simp only [f_shows1, if_neg h1, if_neg h2]))).symm), rfl, rfl, rfl, rfl⟩
def r_X1_shows (I : tq_I) (c p : Nat) : Int32 := (if (I 13 c) = (I 102 5) then (if (I 15 c) = (I 102 6) then (tq_sr (f_shows1 I c p) p 0 (nI 1)) else (nI 0)) else (nI 0))
set_option maxRecDepth 20000 in
theorem c_X1_shows (g : tq_G) (rest : List tq_S) (I : tq_I) (J : Int64) (c p : Nat) (hc : c ≤ 99) (hp : I 102 5 = nI p) (hp7 : p ≤ 7) : CT g mX1_shows 1 0 0 [.ref 12, .int (nI c), .ref 102] (tq_SC ++ rest) tq_RR I J (tq_ret (tq_SC ++ rest) tq_RR (some (.int (r_X1_shows I c p))) I J) := by
  refine CT.ret kX1_shows (Nat.le_of_ble_eq_true rfl) (fun x0 C hR hZ => ?_)
  refine EV_en (lv' := [some (.ref 12), some (.int (nI c)), some (.ref 102), none]) 1 rfl ?_
  refine EV_blk (own := 1) C rfl [(.aload_n 0, 0, 0, 0, 0), (.getfield 9, 1, 0, 173, 0), (.iload_n 1, 0, 0, 0, 0)] (pc' := 5) (by decide +kernel) (lv' := [some (.ref 12), some (.int (nI c)), some (.ref 102), none]) (st' := [.int (nI c), .ref 13]) (I' := I) (J' := J) rfl ?_
  refine EV_iald (j := c) C (by decide +kernel) rfl (nI_toInt (by omega)) (by omega) ?_
  refine EV_blk (own := 1) C rfl [(.aload_n 2, 0, 0, 0, 0), (.getfield 30, 7, 5, 261, 0)] (pc' := 10) (by decide +kernel) (lv' := [some (.ref 12), some (.int (nI c)), some (.ref 102), none]) (st' := [.int (I 102 5), .int (I 13 c)]) (I' := I) (J' := J) rfl ?_
  refine EV_icmp_ne (off := 16) (tgt := 26) C (by decide +kernel) (by decide) (fun h1 => ?_) (fun h1 => ?_)
  · skip
    refine EV_blk (own := 1) C rfl [(.iconst 0, 0, 0, 0, (nI 0))] (pc' := 27) (by decide +kernel) (lv' := [some (.ref 12), some (.int (nI c)), some (.ref 102), none]) (st' := [.int (nI 0)]) (I' := I) (J' := J) rfl ?_
    exact EV_zret C hZ rfl (by decide) (by decide +kernel) (Nat.le_refl _) (Nat.le_refl _) ⟨tq_some (by simp only [r_X1_shows, if_neg h1]), rfl, rfl, rfl, rfl⟩
  · skip
    refine EV_blk (own := 1) C rfl [(.aload_n 0, 0, 0, 0, 0), (.getfield 18, 1, 2, 177, 0), (.iload_n 1, 0, 0, 0, 0)] (pc' := 18) (by decide +kernel) (lv' := [some (.ref 12), some (.int (nI c)), some (.ref 102), none]) (st' := [.int (nI c), .ref 15]) (I' := I) (J' := J) rfl ?_
    refine EV_iald (j := c) C (by decide +kernel) rfl (nI_toInt (by omega)) (by omega) ?_
    refine EV_blk (own := 1) C rfl [(.aload_n 2, 0, 0, 0, 0), (.getfield 36, 7, 6, 264, 0)] (pc' := 23) (by decide +kernel) (lv' := [some (.ref 12), some (.int (nI c)), some (.ref 102), none]) (st' := [.int (I 102 6), .int (I 15 c)]) (I' := I) (J' := J) rfl ?_
    refine EV_icmp_eq (off := 5) (tgt := 28) C (by decide +kernel) (by decide) (fun h2 => ?_) (fun h2 => ?_)
    · skip
      refine EV_blk (own := 1) C rfl [(.iconst 0, 0, 0, 0, (nI 0)), (.istore_n 3, 0, 0, 0, 0)] (pc' := 30) (by decide +kernel) (lv' := [some (.ref 12), some (.int (nI c)), some (.ref 102), some (.int (nI 0))]) (st' := []) (I' := I) (J' := J) rfl ?_
      refine lp_shows1 I J C hR hZ c p hc hp hp7 p 0 (by omega) (by simp only [r_X1_shows, if_pos h1, if_pos h2]) (fun hd => ?_)
      refine EV_blk (own := 1) C rfl [(.iconst 1, 0, 0, 0, (nI 1))] (pc' := 62) (by decide +kernel) (lv' := [some (.ref 12), some (.int (nI c)), some (.ref 102), none]) (st' := [.int (nI 1)]) (I' := I) (J' := J) rfl ?_
      exact EV_zret C hZ rfl (by decide) (by decide +kernel) (Nat.le_refl _) (Nat.le_refl _) ⟨tq_some hd.symm, rfl, rfl, rfl, rfl⟩
    · skip
      refine EV_blk (own := 1) C rfl [(.iconst 0, 0, 0, 0, (nI 0))] (pc' := 27) (by decide +kernel) (lv' := [some (.ref 12), some (.int (nI c)), some (.ref 102), none]) (st' := [.int (nI 0)]) (I' := I) (J' := J) rfl ?_
      exact EV_zret C hZ rfl (by decide) (by decide +kernel) (Nat.le_refl _) (Nat.le_refl _) ⟨tq_some (by simp only [r_X1_shows, if_pos h1, if_neg h2]), rfl, rfl, rfl, rfl⟩
def I_X1_take (I : tq_I) (c p : Nat) : tq_I := (tq_cp (tq_u (tq_u I 13 c (I 102 5)) 15 c ((tq_u I 13 c (I 102 5)) 102 6)) 106 0 14 (c * 7) p)
set_option maxRecDepth 20000 in
theorem c_X1_take (g : tq_G) (rest : List tq_S) (I : tq_I) (J : Int64) (c p : Nat) (hc : c ≤ 99) (hp : I 102 5 = nI p) (hp7 : p ≤ 7) : CT g mX1_take 2 0 0 [.ref 12, .int (nI c), .ref 102] (tq_SC ++ rest) tq_RR I J (tq_ret (tq_SC ++ rest) tq_RR none (I_X1_take I c p) J) := by
  refine CT.ret kX1_take (Nat.le_of_ble_eq_true rfl) (fun x0 C hR hZ => ?_)
  refine EV_en (lv' := [some (.ref 12), some (.int (nI c)), some (.ref 102)]) 0 rfl ?_
  refine EV_blk (own := 1) C rfl [(.aload_n 0, 0, 0, 0, 0), (.getfield 9, 1, 0, 173, 0), (.iload_n 1, 0, 0, 0, 0), (.aload_n 2, 0, 0, 0, 0), (.getfield 30, 7, 5, 261, 0)] (pc' := 9) (by decide +kernel) (lv' := [some (.ref 12), some (.int (nI c)), some (.ref 102)]) (st' := [.int (I 102 5), .int (nI c), .ref 13]) (I' := I) (J' := J) rfl ?_
  refine EV_iast (j := c) C (by decide +kernel) rfl (nI_toInt (by omega)) (by omega) ?_
  refine EV_blk (own := 1) C rfl [(.aload_n 0, 0, 0, 0, 0), (.getfield 18, 1, 2, 177, 0), (.iload_n 1, 0, 0, 0, 0), (.aload_n 2, 0, 0, 0, 0), (.getfield 36, 7, 6, 264, 0)] (pc' := 19) (by decide +kernel) (lv' := [some (.ref 12), some (.int (nI c)), some (.ref 102)]) (st' := [.int ((tq_u I 13 c (I 102 5)) 102 6), .int (nI c), .ref 15]) (I' := (tq_u I 13 c (I 102 5))) (J' := J) rfl ?_
  refine EV_iast (j := c) C (by decide +kernel) rfl (nI_toInt (by omega)) (by omega) ?_
  refine EV_blk (own := 1) C rfl [(.aload_n 2, 0, 0, 0, 0), (.getfield 43, 7, 4, 258, 0), (.iconst 0, 0, 0, 0, (nI 0)), (.aload_n 0, 0, 0, 0, 0), (.getfield 15, 1, 1, 176, 0), (.iload_n 1, 0, 0, 0, 0), (.bipush 7, 0, 0, 0, (nI 7)), (.imul, 0, 0, 0, 0), (.aload_n 2, 0, 0, 0, 0), (.getfield 30, 7, 5, 261, 0)] (pc' := 37) (by decide +kernel) (lv' := [some (.ref 12), some (.int (nI c)), some (.ref 102)]) (st' := [.int ((tq_u (tq_u I 13 c (I 102 5)) 15 c ((tq_u I 13 c (I 102 5)) 102 6)) 102 5), .int ((nI c) * (nI 7)), .ref 14, .int (nI 0), .ref 106]) (I' := (tq_u (tq_u I 13 c (I 102 5)) 15 c ((tq_u I 13 c (I 102 5)) 102 6))) (J' := J) rfl ?_
  refine EV_copy (own := 1) (idx := 24) (pl := 432) (sp' := 0) (dp' := c * 7) (z' := p) C hR rfl (by decide) (by decide +kernel) (by decide) (Nat.le_of_ble_eq_true rfl) rfl rfl (nI_toInt (by omega)) (tq_toI (c * 7) (by simp only [tq_mul]) (by omega)) (tq_toI p (by simp [tq_u, hp]) (by omega)) (by omega) (by omega) ?_
  exact EV_vret C hZ rfl (by decide +kernel) (Nat.le_refl _) (Nat.le_refl _) ⟨rfl, rfl, rfl, by simp only [I_X1_take], rfl⟩
theorem fr_X1_take (I : tq_I) (c p : Nat) {cz : Nat} (hc : cz ≠ 13 ∧ cz ≠ 14 ∧ cz ≠ 15) (jz : Nat) : I_X1_take I c p cz jz = I cz jz := by
  obtain ⟨hc0, hc1, hc2⟩ := hc
  simp only [I_X1_take]
  (repeat' split) <;> simp (disch := first | assumption | (simp only [ne_eq] at *; simp [*])) [tq_u, tq_cp, hc0, hc1, hc2, fr_tb1, fr_tb2, fr_X8_touchBlock, fr_X8_touchAll, fr_X8_changeCorner, fr_X8_changePath, fr_cb1, fr_cb2, fr_X8_changeBlock, fr_wipe1, fr_X1_wipe, fr_sm1, fr_sm2, fr_X8_startMap, fr_X6_place, fr_mt1, fr_mt2, fr_X6_moveTo, fr_ch2, fr_X10_choose]
