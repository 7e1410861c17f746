def r_X12_pathOf (I : tq_I) (x y : Int32) (w h : Nat) : Int32 := (if (tq_b (tr_cell I x y)) = 0 then (I 118 3) else (I 118 (143 + 10 * tq_N y + tq_N x)))
set_option maxRecDepth 20000 in
theorem c_X12_pathOf (g : tq_G) (I : tq_I) (J : Int64) (x y : Int32) (w h : Nat) (k : tr_wh I w h) : CT g mX12_pathOf 2 0 0 [.ref 117, .int x, .int y] (tq_SC ++ tq_SR) tq_RR I J (tq_ret (tq_SC ++ tq_SR) tq_RR (some (.int (r_X12_pathOf I x y w h))) I J) := by
  refine CT.ret kX12_pathOf (Nat.le_of_ble_eq_true rfl) (fun x0 C hR hZ => ?_)
  refine EV_en (lv' := [some (.ref 117), some (.int x), some (.int y)]) 0 rfl ?_
  refine EV_blk (own := 12) C rfl [(.aload_n 0, 0, 0, 0, 0), (.iload_n 1, 0, 0, 0, 0), (.iload_n 2, 0, 0, 0, 0)] (pc' := 3) (by decide +kernel) (lv' := [some (.ref 117), some (.int x), some (.int y)]) (st' := [.int y, .int x, .ref 117]) (I' := I) (J' := J) rfl ?_
  refine EV_cV (own := 12) (idx := 66) (μ' := mX12_isCell) (b := 117) (cb := 12) (av := [.int x, .int y]) (rest := []) C hR rfl (Or.inl ⟨892, by decide⟩) kX12_isCell sX12_isCell (c_X12_isCell g I J x y ) rfl rfl (by decide +kernel) rfl (by decide) (Nat.le_of_ble_eq_true rfl) rfl ⟨Nat.zero_le _, Nat.zero_le _⟩ ?_
  refine EV_if_eq (off := 21) (tgt := 27) C (by decide +kernel) (by decide) (fun h1 => ?_) (fun h1 => ?_)
  · skip
    refine EV_blk (own := 12) C rfl [(.aload_n 0, 0, 0, 0, 0), (.getfield 7, 12, 0, 899, 0), (.iconst 3, 0, 0, 0, (nI 3))] (pc' := 32) (by decide +kernel) (lv' := [some (.ref 117), some (.int x), some (.int y)]) (st' := [.int (nI 3), .ref 118]) (I' := I) (J' := J) rfl ?_
    refine EV_iald (j := 3) C (by decide +kernel) rfl (nI_toInt (by omega)) (by omega) ?_
    exact EV_iret C hZ rfl (by decide +kernel) (Nat.le_refl _) (Nat.le_refl _) ⟨tq_some (by simp only [r_X12_pathOf, if_pos h1]), rfl, rfl, rfl, rfl⟩
  · skip
    have hc := tq_b10 h1
    have hxy := tr_cell.ix k hc
    have hw10 := k.2.2.2.1
    have hh10 := k.2.2.2.2.2
    have hx1 := (k.cell.mp hc).2.1
    have hy1 := (k.cell.mp hc).2.2.2
    refine EV_blk (own := 12) C rfl [(.aload_n 0, 0, 0, 0, 0), (.getfield 7, 12, 0, 899, 0), (.sipush 143, 0, 0, 0, (nI 143)), (.bipush 10, 0, 0, 0, (nI 10)), (.iload_n 2, 0, 0, 0, 0), (.imul, 0, 0, 0, 0), (.iadd, 0, 0, 0, 0), (.iload_n 1, 0, 0, 0, 0), (.iadd, 0, 0, 0, 0)] (pc' := 23) (by decide +kernel) (lv' := [some (.ref 117), some (.int x), some (.int y)]) (st' := [.int (((nI 143) + ((nI 10) * y)) + x), .ref 118]) (I' := I) (J' := J) rfl ?_
    refine EV_iald (j := (143 + 10 * tq_N y + tq_N x)) C (by decide +kernel) rfl (tq_ixr 143 10 hxy.1 (by omega) hxy.2.1 (by omega) (by decide) (by decide)) (by omega) ?_
    refine EV_blk (own := 12) C rfl [(.goto 9, 0, 0, 0, 0)] (pc' := 33) (by decide +kernel) (lv' := [some (.ref 117), some (.int x), some (.int y)]) (st' := [.int (I 118 (143 + 10 * tq_N y + tq_N x))]) (I' := I) (J' := J) rfl ?_
    exact EV_iret C hZ rfl (by decide +kernel) (Nat.le_refl _) (Nat.le_refl _) ⟨tq_some (by simp only [r_X12_pathOf, if_neg h1]), rfl, rfl, rfl, rfl⟩
def r_X12_hasPath (I : tq_I) (x y : Int32) (w h s : Nat) : Int32 := (if (tq_b (tr_cell I x y)) = 0 then (-2) else (r_X12_pathOf I x y w h))
set_option maxRecDepth 20000 in
theorem c_X12_hasPath (g : tq_G) (I : tq_I) (J : Int64) (x y : Int32) (w h s : Nat) (k : tr_wh I w h) (hs : I 117 1 = nI s) (hs5 : s ≤ 5)  : CT g mX12_hasPath 3 0 0 [.ref 117, .int x, .int y] (tq_SC ++ tq_SR) tq_RR I J (tq_ret (tq_SC ++ tq_SR) tq_RR (some (.int (r_X12_hasPath I x y w h s))) I J) := by
  refine CT.ret kX12_hasPath (Nat.le_of_ble_eq_true rfl) (fun x0 C hR hZ => ?_)
  refine EV_en (lv' := [some (.ref 117), some (.int x), some (.int y)]) 0 rfl ?_
  refine EV_blk (own := 12) C rfl [(.aload_n 0, 0, 0, 0, 0), (.iload_n 1, 0, 0, 0, 0), (.iload_n 2, 0, 0, 0, 0)] (pc' := 3) (by decide +kernel) (lv' := [some (.ref 117), some (.int x), some (.int y)]) (st' := [.int y, .int x, .ref 117]) (I' := I) (J' := J) rfl ?_
  refine EV_cV (own := 12) (idx := 66) (μ' := mX12_isCell) (b := 117) (cb := 12) (av := [.int x, .int y]) (rest := []) C hR rfl (Or.inl ⟨892, by decide⟩) kX12_isCell sX12_isCell (c_X12_isCell g I J x y ) rfl rfl (by decide +kernel) rfl (by decide) (Nat.le_of_ble_eq_true rfl) rfl ⟨Nat.zero_le _, Nat.zero_le _⟩ ?_
  refine EV_if_eq (off := 12) (tgt := 18) C (by decide +kernel) (by decide) (fun h1 => ?_) (fun h1 => ?_)
  · skip
    refine EV_blk (own := 12) C rfl [(.bipush (-2), 0, 0, 0, (-2))] (pc' := 20) (by decide +kernel) (lv' := [some (.ref 117), some (.int x), some (.int y)]) (st' := [.int (-2)]) (I' := I) (J' := J) rfl ?_
    exact EV_iret C hZ rfl (by decide +kernel) (Nat.le_refl _) (Nat.le_refl _) ⟨tq_some (by simp only [r_X12_hasPath, if_pos h1]), rfl, rfl, rfl, rfl⟩
  · skip
    have hc := tq_b10 h1
    have hxy := tr_cell.ix k hc
    have hw10 := k.2.2.2.1
    have hh10 := k.2.2.2.2.2
    refine EV_blk (own := 12) C rfl [(.aload_n 0, 0, 0, 0, 0), (.iload_n 1, 0, 0, 0, 0), (.iload_n 2, 0, 0, 0, 0)] (pc' := 12) (by decide +kernel) (lv' := [some (.ref 117), some (.int x), some (.int y)]) (st' := [.int y, .int x, .ref 117]) (I' := I) (J' := J) rfl ?_
    refine EV_cV (own := 12) (idx := 110) (μ' := mX12_pathOf) (b := 117) (cb := 12) (av := [.int x, .int y]) (rest := []) C hR rfl (Or.inl ⟨1057, by decide⟩) kX12_pathOf sX12_pathOf (c_X12_pathOf g I J x y w h k) rfl rfl (by decide +kernel) rfl (by decide) (Nat.le_of_ble_eq_true rfl) rfl ⟨Nat.zero_le _, Nat.zero_le _⟩ ?_
    refine EV_blk (own := 12) C rfl [(.goto 5, 0, 0, 0, 0)] (pc' := 20) (by decide +kernel) (lv' := [some (.ref 117), some (.int x), some (.int y)]) (st' := [.int (r_X12_pathOf I x y w h)]) (I' := I) (J' := J) rfl ?_
    exact EV_iret C hZ rfl (by decide +kernel) (Nat.le_refl _) (Nat.le_refl _) ⟨tq_some (by simp only [r_X12_hasPath, if_neg h1]), rfl, rfl, rfl, rfl⟩
def f_sp1 (x y : Int32) (b hd : Int32) (w h : Nat) (i : Nat) (a : tq_I) : tq_I := (I_X12_touches a ((x - (nI 1)) + (tq_rem (nI i) (nI 3))) ((y - (nI 1)) + ((nI i) / (nI 3))) w h)
set_option maxRecDepth 20000 in
theorem lp_sp1 {g : tq_G} {x0 : tq_X} (C : tq_C g mX12_setPath x0) (hR : tq_ht x0 3 0 0) (J : Int64) (x y : Int32) (b hd : Int32) (w h : Nat)  : ∀ (n i : Nat) (a : tq_I), i + n = 9 → tr_wh a w h → EV g mX12_setPath x0 0 0 99 [some (.ref 117), some (.int x), some (.int y), some (.int b), some (.int hd), some (.int (nI (i + n)))] [] (tq_SC ++ tq_SR) tq_RR (tq_it (f_sp1 x y b hd w h) n i a) J → EV g mX12_setPath x0 0 0 66 [some (.ref 117), some (.int x), some (.int y), some (.int b), some (.int hd), some (.int (nI i))] [] (tq_SC ++ tq_SR) tq_RR a J := by
  intro n
  induction n with
  | zero =>
    intro i a hi hI kk
    rw [Nat.add_zero] at kk
    refine EV_blk (own := 12) C rfl [(.iload 5, 0, 0, 0, 0), (.bipush 9, 0, 0, 0, (nI 9))] (pc' := 70) (by decide +kernel) (lv' := [some (.ref 117), some (.int x), some (.int y), some (.int b), some (.int hd), some (.int (nI i))]) (st' := [.int (nI 9), .int (nI i)]) (I' := a) (J' := J) rfl ?_
    refine EV_icmp_ge (off := 29) (tgt := 99) C (by decide +kernel) (by decide) (fun h1 => ?_) (fun h1 => ?_)
    · skip
      exact kk
    · skip
      exact absurd h1 (by simp (disch := omega) only [Int32.lt_iff_toInt_lt, Int32.le_iff_toInt_le, Int32.toInt_zero, nI_toInt, tq_m1]; omega)
  | succ n ih =>
    intro i a hi hI kk
    rw [show i + (n + 1) = (i + 1) + n by omega] at kk
    refine EV_blk (own := 12) C rfl [(.iload 5, 0, 0, 0, 0), (.bipush 9, 0, 0, 0, (nI 9))] (pc' := 70) (by decide +kernel) (lv' := [some (.ref 117), some (.int x), some (.int y), some (.int b), some (.int hd), some (.int (nI i))]) (st' := [.int (nI 9), .int (nI i)]) (I' := a) (J' := J) rfl ?_
    refine EV_icmp_ge (off := 29) (tgt := 99) C (by decide +kernel) (by decide) (fun h1 => ?_) (fun h1 => ?_)
    · skip
      exact absurd h1 (by simp (disch := omega) only [Int32.lt_iff_toInt_lt, Int32.le_iff_toInt_le, Int32.toInt_zero, nI_toInt, tq_m1]; omega)
    · skip
      refine EV_blk (own := 12) C rfl [(.aload_n 0, 0, 0, 0, 0), (.iload_n 1, 0, 0, 0, 0), (.iconst 1, 0, 0, 0, (nI 1)), (.isub, 0, 0, 0, 0), (.iload 5, 0, 0, 0, 0), (.iconst 3, 0, 0, 0, (nI 3))] (pc' := 80) (by decide +kernel) (lv' := [some (.ref 117), some (.int x), some (.int y), some (.int b), some (.int hd), some (.int (nI i))]) (st' := [.int (nI 3), .int (nI i), .int (x - (nI 1)), .ref 117]) (I' := a) (J' := J) rfl ?_
      refine EV_irem C (by decide +kernel) (by decide) ?_
      refine EV_blk (own := 12) C rfl [(.iadd, 0, 0, 0, 0), (.iload_n 2, 0, 0, 0, 0), (.iconst 1, 0, 0, 0, (nI 1)), (.isub, 0, 0, 0, 0), (.iload 5, 0, 0, 0, 0), (.iconst 3, 0, 0, 0, (nI 3))] (pc' := 88) (by decide +kernel) (lv' := [some (.ref 117), some (.int x), some (.int y), some (.int b), some (.int hd), some (.int (nI i))]) (st' := [.int (nI 3), .int (nI i), .int (y - (nI 1)), .int ((x - (nI 1)) + (tq_rem (nI i) (nI 3))), .ref 117]) (I' := a) (J' := J) rfl ?_
      refine EV_idiv C (by decide +kernel) (by decide) ?_
      refine EV_blk (own := 12) C rfl [(.iadd, 0, 0, 0, 0)] (pc' := 90) (by decide +kernel) (lv' := [some (.ref 117), some (.int x), some (.int y), some (.int b), some (.int hd), some (.int (nI i))]) (st' := [.int ((y - (nI 1)) + ((nI i) / (nI 3))), .int ((x - (nI 1)) + (tq_rem (nI i) (nI 3))), .ref 117]) (I' := a) (J' := J) rfl ?_
      refine EV_cV (own := 12) (idx := 70) (μ' := mX12_touches) (b := 117) (cb := 12) (av := [.int ((x - (nI 1)) + (tq_rem (nI i) (nI 3))), .int ((y - (nI 1)) + ((nI i) / (nI 3)))]) (rest := []) C hR rfl (Or.inl ⟨888, by decide⟩) kX12_touches sX12_touches (c_X12_touches g a J ((x - (nI 1)) + (tq_rem (nI i) (nI 3))) ((y - (nI 1)) + ((nI i) / (nI 3))) w h hI) rfl rfl (by decide +kernel) rfl (by decide) (Nat.le_of_ble_eq_true rfl) rfl ⟨Nat.zero_le _, Nat.zero_le _⟩ ?_
      refine EV_blk (own := 12) C rfl [(.iinc 5 1, 0, 0, 0, (nI 1)), (.goto (-30), 0, 0, 0, 0)] (pc' := 66) (by decide +kernel) (lv' := [some (.ref 117), some (.int x), some (.int y), some (.int b), some (.int hd), some (.int ((nI i) + (nI 1)))]) (st' := []) (I' := (I_X12_touches a ((x - (nI 1)) + (tq_rem (nI i) (nI 3))) ((y - (nI 1)) + ((nI i) / (nI 3))) w h)) (J' := J) rfl ?_
      rw [show ((nI i) + (nI 1)) = (nI (i + 1)) from by simp (disch := omega) only [nI_add, tq_mul] <;> exact congrArg nI (by omega)]
      rw [tq_its, show (f_sp1 x y b hd w h) i a = (I_X12_touches a ((x - (nI 1)) + (tq_rem (nI i) (nI 3))) ((y - (nI 1)) + ((nI i) / (nI 3))) w h) from by simp only [f_sp1, if_neg h1]] at kk
      exact ih (i + 1) (I_X12_touches a ((x - (nI 1)) + (tq_rem (nI i) (nI 3))) ((y - (nI 1)) + ((nI i) / (nI 3))) w h) (by omega) hI.touches kk
theorem fr_sp1 (x y : Int32) (b hd : Int32) (w h : Nat) {cz : Nat} (hc : cz ≠ 118) (n i : Nat) (a : tq_I) (jz : Nat) : (tq_it (f_sp1 x y b hd w h) n i a) cz jz = a cz jz := by
  have hc0 := hc
  refine tq_itF (fun i a j => ?_) n i a jz
  simp only [f_sp1]
  (repeat' split) <;> simp (disch := first | assumption | (simp only [ne_eq] at *; simp [*])) [tq_u, tq_cp, hc0, fr_X12_touches, fr_ta1, fr_X12_touchesAll, fr_cps1, fr_X12_copies, fr_sav, fr_bg1, fr_bg2, fr_X12_begins, fr_ly1, fr_X12_lays, fr_bgn1, fr_X12_begin, fr_X12_setCorner, fr_fi1, fr_X12_fill, fr_fg1, fr_X12_forgets, fr_rc1, fr_rc2, fr_X12_reaches, fr_mfl1, fr_X12_flood, fr_mrg1, fr_X12_regions, fr_mra1, fr_X12_raise]
def r_X12_setPath (I : tq_I) (x y b : Int32) (w h s : Nat) : Int32 := (if (tq_b (tr_cell I x y)) = 0 then (-2) else (if (r_X12_pathOf (tr_sav I s) x y w h) = (nI 1) then (if b = (nI 1) then (r_X12_pathOf (tr_sav I s) x y w h) else (if b = 0 then (r_X12_pathOf (tr_sav I s) x y w h) else (r_X12_pathOf (tr_sav I s) x y w h))) else (if b = (nI 0) then (r_X12_pathOf (tr_sav I s) x y w h) else (if b = 0 then (r_X12_pathOf (tr_sav I s) x y w h) else (r_X12_pathOf (tr_sav I s) x y w h)))))
def I_X12_setPath (I : tq_I) (x y b : Int32) (w h s : Nat) : tq_I := (if (tq_b (tr_cell I x y)) = 0 then I else (if (r_X12_pathOf (tr_sav I s) x y w h) = (nI 1) then (if b = (nI 1) then (tr_sav I s) else (if b = 0 then (tq_it (f_sp1 x y b (r_X12_pathOf (tr_sav I s) x y w h) w h) 9 0 (tq_u (tr_sav I s) 118 (143 + 10 * tq_N y + tq_N x) (nI 0))) else (tq_it (f_sp1 x y b (r_X12_pathOf (tr_sav I s) x y w h) w h) 9 0 (tq_u (tr_sav I s) 118 (143 + 10 * tq_N y + tq_N x) (nI 1))))) else (if b = (nI 0) then (tr_sav I s) else (if b = 0 then (tq_it (f_sp1 x y b (r_X12_pathOf (tr_sav I s) x y w h) w h) 9 0 (tq_u (tr_sav I s) 118 (143 + 10 * tq_N y + tq_N x) (nI 0))) else (tq_it (f_sp1 x y b (r_X12_pathOf (tr_sav I s) x y w h) w h) 9 0 (tq_u (tr_sav I s) 118 (143 + 10 * tq_N y + tq_N x) (nI 1)))))))
set_option maxRecDepth 20000 in
theorem c_X12_setPath (g : tq_G) (I : tq_I) (J : Int64) (x y b : Int32) (w h s : Nat) (k : tr_wh I w h) (hs : I 117 1 = nI s) (hs5 : s ≤ 5)  : CT g mX12_setPath 3 0 0 [.ref 117, .int x, .int y, .int b] (tq_SC ++ tq_SR) tq_RR I J (tq_ret (tq_SC ++ tq_SR) tq_RR (some (.int (r_X12_setPath I x y b w h s))) (I_X12_setPath I x y b w h s) J) := by
  refine CT.ret kX12_setPath (Nat.le_of_ble_eq_true rfl) (fun x0 C hR hZ => ?_)
  refine EV_en (lv' := [some (.ref 117), some (.int x), some (.int y), some (.int b), none, none]) 2 rfl ?_
  refine EV_blk (own := 12) C rfl [(.aload_n 0, 0, 0, 0, 0), (.iload_n 1, 0, 0, 0, 0), (.iload_n 2, 0, 0, 0, 0)] (pc' := 3) (by decide +kernel) (lv' := [some (.ref 117), some (.int x), some (.int y), some (.int b), none, none]) (st' := [.int y, .int x, .ref 117]) (I' := I) (J' := J) rfl ?_
  refine EV_cV (own := 12) (idx := 66) (μ' := mX12_isCell) (b := 117) (cb := 12) (av := [.int x, .int y]) (rest := []) C hR rfl (Or.inl ⟨892, by decide⟩) kX12_isCell sX12_isCell (c_X12_isCell g I J x y ) rfl rfl (by decide +kernel) rfl (by decide) (Nat.le_of_ble_eq_true rfl) rfl ⟨Nat.zero_le _, Nat.zero_le _⟩ ?_
  refine EV_if_ne (off := 6) (tgt := 12) C (by decide +kernel) (by decide) (fun h1 => ?_) (fun h1 => ?_)
  · skip
    have hc := tq_b10 h1
    have hxy := tr_cell.ix k hc
    have hw10 := k.2.2.2.1
    have hh10 := k.2.2.2.2.2
    have hx1 := (k.cell.mp hc).2.1
    have hy1 := (k.cell.mp hc).2.2.2
    refine EV_blk (own := 12) C rfl [(.aload_n 0, 0, 0, 0, 0)] (pc' := 13) (by decide +kernel) (lv' := [some (.ref 117), some (.int x), some (.int y), some (.int b), none, none]) (st' := [.ref 117]) (I' := I) (J' := J) rfl ?_
    refine EV_cV (own := 12) (idx := 84) (μ' := mX12_saves) (b := 117) (cb := 12) (av := []) (rest := []) C hR rfl (Or.inl ⟨986, by decide⟩) kX12_saves sX12_saves (c_saves g I J s hs hs5) rfl rfl (by decide +kernel) rfl (by decide) (Nat.le_of_ble_eq_true rfl) rfl ⟨Nat.zero_le _, Nat.zero_le _⟩ ?_
    refine EV_blk (own := 12) C rfl [(.aload_n 0, 0, 0, 0, 0), (.iload_n 1, 0, 0, 0, 0), (.iload_n 2, 0, 0, 0, 0)] (pc' := 19) (by decide +kernel) (lv' := [some (.ref 117), some (.int x), some (.int y), some (.int b), none, none]) (st' := [.int y, .int x, .ref 117]) (I' := (tr_sav I s)) (J' := J) rfl ?_
    refine EV_cV (own := 12) (idx := 110) (μ' := mX12_pathOf) (b := 117) (cb := 12) (av := [.int x, .int y]) (rest := []) C hR rfl (Or.inl ⟨1057, by decide⟩) kX12_pathOf sX12_pathOf (c_X12_pathOf g (tr_sav I s) J x y w h k.sav) rfl rfl (by decide +kernel) rfl (by decide) (Nat.le_of_ble_eq_true rfl) rfl ⟨Nat.zero_le _, Nat.zero_le _⟩ ?_
    refine EV_blk (own := 12) C rfl [(.istore 4, 0, 0, 0, 0), (.iload_n 3, 0, 0, 0, 0), (.iload 4, 0, 0, 0, 0), (.iconst 1, 0, 0, 0, (nI 1))] (pc' := 28) (by decide +kernel) (lv' := [some (.ref 117), some (.int x), some (.int y), some (.int b), some (.int (r_X12_pathOf (tr_sav I s) x y w h)), none]) (st' := [.int (nI 1), .int (r_X12_pathOf (tr_sav I s) x y w h), .int b]) (I' := (tr_sav I s)) (J' := J) rfl ?_
    refine EV_icmp_ne (off := 7) (tgt := 35) C (by decide +kernel) (by decide) (fun h2 => ?_) (fun h2 => ?_)
    · skip
      refine EV_blk (own := 12) C rfl [(.iconst 0, 0, 0, 0, (nI 0))] (pc' := 36) (by decide +kernel) (lv' := [some (.ref 117), some (.int x), some (.int y), some (.int b), some (.int (r_X12_pathOf (tr_sav I s) x y w h)), none]) (st' := [.int (nI 0), .int b]) (I' := (tr_sav I s)) (J' := J) rfl ?_
      refine EV_icmp_eq (off := 63) (tgt := 99) C (by decide +kernel) (by decide) (fun h3 => ?_) (fun h3 => ?_)
      · skip
        refine EV_blk (own := 12) C rfl [(.iload 4, 0, 0, 0, 0)] (pc' := 101) (by decide +kernel) (lv' := [some (.ref 117), some (.int x), some (.int y), some (.int b), some (.int (r_X12_pathOf (tr_sav I s) x y w h)), none]) (st' := [.int (r_X12_pathOf (tr_sav I s) x y w h)]) (I' := (tr_sav I s)) (J' := J) rfl ?_
        exact EV_iret C hZ rfl (by decide +kernel) (Nat.le_refl _) (Nat.le_refl _) ⟨tq_some (by simp only [r_X12_setPath, if_neg h1, if_neg h2, if_pos h3]), rfl, rfl, by simp only [I_X12_setPath, if_neg h1, if_neg h2, if_pos h3], rfl⟩
      · skip
        refine EV_blk (own := 12) C rfl [(.aload_n 0, 0, 0, 0, 0), (.getfield 7, 12, 0, 899, 0), (.sipush 143, 0, 0, 0, (nI 143)), (.bipush 10, 0, 0, 0, (nI 10)), (.iload_n 2, 0, 0, 0, 0), (.imul, 0, 0, 0, 0), (.iadd, 0, 0, 0, 0), (.iload_n 1, 0, 0, 0, 0), (.iadd, 0, 0, 0, 0), (.iload_n 3, 0, 0, 0, 0)] (pc' := 54) (by decide +kernel) (lv' := [some (.ref 117), some (.int x), some (.int y), some (.int b), some (.int (r_X12_pathOf (tr_sav I s) x y w h)), none]) (st' := [.int b, .int (((nI 143) + ((nI 10) * y)) + x), .ref 118]) (I' := (tr_sav I s)) (J' := J) rfl ?_
        refine EV_if_eq (off := 7) (tgt := 61) C (by decide +kernel) (by decide) (fun h4 => ?_) (fun h4 => ?_)
        · skip
          refine EV_blk (own := 12) C rfl [(.iconst 0, 0, 0, 0, (nI 0))] (pc' := 62) (by decide +kernel) (lv' := [some (.ref 117), some (.int x), some (.int y), some (.int b), some (.int (r_X12_pathOf (tr_sav I s) x y w h)), none]) (st' := [.int (nI 0), .int (((nI 143) + ((nI 10) * y)) + x), .ref 118]) (I' := (tr_sav I s)) (J' := J) rfl ?_
          refine EV_iast (j := (143 + 10 * tq_N y + tq_N x)) C (by decide +kernel) rfl (tq_ixr 143 10 hxy.1 (by omega) hxy.2.1 (by omega) (by decide) (by decide)) (by omega) ?_
          refine EV_blk (own := 12) C rfl [(.iconst 0, 0, 0, 0, (nI 0)), (.istore 5, 0, 0, 0, 0)] (pc' := 66) (by decide +kernel) (lv' := [some (.ref 117), some (.int x), some (.int y), some (.int b), some (.int (r_X12_pathOf (tr_sav I s) x y w h)), some (.int (nI 0))]) (st' := []) (I' := (tq_u (tr_sav I s) 118 (143 + 10 * tq_N y + tq_N x) (nI 0))) (J' := J) rfl ?_
          refine lp_sp1 C hR J x y b (r_X12_pathOf (tr_sav I s) x y w h) w h  9 0 (tq_u (tr_sav I s) 118 (143 + 10 * tq_N y + tq_N x) (nI 0)) (by omega) (k.sav.cong (tq_u_slot (by omega)) (tq_u_slot (by omega))) ?_
          refine EV_blk (own := 12) C rfl [(.iload 4, 0, 0, 0, 0)] (pc' := 101) (by decide +kernel) (lv' := [some (.ref 117), some (.int x), some (.int y), some (.int b), some (.int (r_X12_pathOf (tr_sav I s) x y w h)), some (.int (nI ((0 + 9))))]) (st' := [.int (r_X12_pathOf (tr_sav I s) x y w h)]) (I' := (tq_it (f_sp1 x y b (r_X12_pathOf (tr_sav I s) x y w h) w h) 9 0 (tq_u (tr_sav I s) 118 (143 + 10 * tq_N y + tq_N x) (nI 0)))) (J' := J) rfl ?_
          exact EV_iret C hZ rfl (by decide +kernel) (Nat.le_refl _) (Nat.le_refl _) ⟨tq_some (by simp only [r_X12_setPath, if_neg h1, if_neg h2, if_neg h3, if_pos h4]), rfl, rfl, by simp only [I_X12_setPath, if_neg h1, if_neg h2, if_neg h3, if_pos h4], rfl⟩
        · skip
          refine EV_blk (own := 12) C rfl [(.iconst 1, 0, 0, 0, (nI 1)), (.goto 4, 0, 0, 0, 0)] (pc' := 62) (by decide +kernel) (lv' := [some (.ref 117), some (.int x), some (.int y), some (.int b), some (.int (r_X12_pathOf (tr_sav I s) x y w h)), none]) (st' := [.int (nI 1), .int (((nI 143) + ((nI 10) * y)) + x), .ref 118]) (I' := (tr_sav I s)) (J' := J) rfl ?_
          refine EV_iast (j := (143 + 10 * tq_N y + tq_N x)) C (by decide +kernel) rfl (tq_ixr 143 10 hxy.1 (by omega) hxy.2.1 (by omega) (by decide) (by decide)) (by omega) ?_
          refine EV_blk (own := 12) C rfl [(.iconst 0, 0, 0, 0, (nI 0)), (.istore 5, 0, 0, 0, 0)] (pc' := 66) (by decide +kernel) (lv' := [some (.ref 117), some (.int x), some (.int y), some (.int b), some (.int (r_X12_pathOf (tr_sav I s) x y w h)), some (.int (nI 0))]) (st' := []) (I' := (tq_u (tr_sav I s) 118 (143 + 10 * tq_N y + tq_N x) (nI 1))) (J' := J) rfl ?_
          refine lp_sp1 C hR J x y b (r_X12_pathOf (tr_sav I s) x y w h) w h  9 0 (tq_u (tr_sav I s) 118 (143 + 10 * tq_N y + tq_N x) (nI 1)) (by omega) (k.sav.cong (tq_u_slot (by omega)) (tq_u_slot (by omega))) ?_
          refine EV_blk (own := 12) C rfl [(.iload 4, 0, 0, 0, 0)] (pc' := 101) (by decide +kernel) (lv' := [some (.ref 117), some (.int x), some (.int y), some (.int b), some (.int (r_X12_pathOf (tr_sav I s) x y w h)), some (.int (nI ((0 + 9))))]) (st' := [.int (r_X12_pathOf (tr_sav I s) x y w h)]) (I' := (tq_it (f_sp1 x y b (r_X12_pathOf (tr_sav I s) x y w h) w h) 9 0 (tq_u (tr_sav I s) 118 (143 + 10 * tq_N y + tq_N x) (nI 1)))) (J' := J) rfl ?_
          exact EV_iret C hZ rfl (by decide +kernel) (Nat.le_refl _) (Nat.le_refl _) ⟨tq_some (by simp only [r_X12_setPath, if_neg h1, if_neg h2, if_neg h3, if_neg h4]), rfl, rfl, by simp only [I_X12_setPath, if_neg h1, if_neg h2, if_neg h3, if_neg h4], rfl⟩
    · skip
      refine EV_blk (own := 12) C rfl [(.iconst 1, 0, 0, 0, (nI 1)), (.goto 4, 0, 0, 0, 0)] (pc' := 36) (by decide +kernel) (lv' := [some (.ref 117), some (.int x), some (.int y), some (.int b), some (.int (r_X12_pathOf (tr_sav I s) x y w h)), none]) (st' := [.int (nI 1), .int b]) (I' := (tr_sav I s)) (J' := J) rfl ?_
      refine EV_icmp_eq (off := 63) (tgt := 99) C (by decide +kernel) (by decide) (fun h5 => ?_) (fun h5 => ?_)
      · skip
        refine EV_blk (own := 12) C rfl [(.iload 4, 0, 0, 0, 0)] (pc' := 101) (by decide +kernel) (lv' := [some (.ref 117), some (.int x), some (.int y), some (.int b), some (.int (r_X12_pathOf (tr_sav I s) x y w h)), none]) (st' := [.int (r_X12_pathOf (tr_sav I s) x y w h)]) (I' := (tr_sav I s)) (J' := J) rfl ?_
        exact EV_iret C hZ rfl (by decide +kernel) (Nat.le_refl _) (Nat.le_refl _) ⟨tq_some (by simp only [r_X12_setPath, if_neg h1, if_pos h2, if_pos h5]), rfl, rfl, by simp only [I_X12_setPath, if_neg h1, if_pos h2, if_pos h5], rfl⟩
      · skip
        refine EV_blk (own := 12) C rfl [(.aload_n 0, 0, 0, 0, 0), (.getfield 7, 12, 0, 899, 0), (.sipush 143, 0, 0, 0, (nI 143)), (.bipush 10, 0, 0, 0, (nI 10)), (.iload_n 2, 0, 0, 0, 0), (.imul, 0, 0, 0, 0), (.iadd, 0, 0, 0, 0), (.iload_n 1, 0, 0, 0, 0), (.iadd, 0, 0, 0, 0), (.iload_n 3, 0, 0, 0, 0)] (pc' := 54) (by decide +kernel) (lv' := [some (.ref 117), some (.int x), some (.int y), some (.int b), some (.int (r_X12_pathOf (tr_sav I s) x y w h)), none]) (st' := [.int b, .int (((nI 143) + ((nI 10) * y)) + x), .ref 118]) (I' := (tr_sav I s)) (J' := J) rfl ?_
        refine EV_if_eq (off := 7) (tgt := 61) C (by decide +kernel) (by decide) (fun h6 => ?_) (fun h6 => ?_)
        · skip
          refine EV_blk (own := 12) C rfl [(.iconst 0, 0, 0, 0, (nI 0))] (pc' := 62) (by decide +kernel) (lv' := [some (.ref 117), some (.int x), some (.int y), some (.int b), some (.int (r_X12_pathOf (tr_sav I s) x y w h)), none]) (st' := [.int (nI 0), .int (((nI 143) + ((nI 10) * y)) + x), .ref 118]) (I' := (tr_sav I s)) (J' := J) rfl ?_
          refine EV_iast (j := (143 + 10 * tq_N y + tq_N x)) C (by decide +kernel) rfl (tq_ixr 143 10 hxy.1 (by omega) hxy.2.1 (by omega) (by decide) (by decide)) (by omega) ?_
          refine EV_blk (own := 12) C rfl [(.iconst 0, 0, 0, 0, (nI 0)), (.istore 5, 0, 0, 0, 0)] (pc' := 66) (by decide +kernel) (lv' := [some (.ref 117), some (.int x), some (.int y), some (.int b), some (.int (r_X12_pathOf (tr_sav I s) x y w h)), some (.int (nI 0))]) (st' := []) (I' := (tq_u (tr_sav I s) 118 (143 + 10 * tq_N y + tq_N x) (nI 0))) (J' := J) rfl ?_
          refine lp_sp1 C hR J x y b (r_X12_pathOf (tr_sav I s) x y w h) w h  9 0 (tq_u (tr_sav I s) 118 (143 + 10 * tq_N y + tq_N x) (nI 0)) (by omega) (k.sav.cong (tq_u_slot (by omega)) (tq_u_slot (by omega))) ?_
          refine EV_blk (own := 12) C rfl [(.iload 4, 0, 0, 0, 0)] (pc' := 101) (by decide +kernel) (lv' := [some (.ref 117), some (.int x), some (.int y), some (.int b), some (.int (r_X12_pathOf (tr_sav I s) x y w h)), some (.int (nI ((0 + 9))))]) (st' := [.int (r_X12_pathOf (tr_sav I s) x y w h)]) (I' := (tq_it (f_sp1 x y b (r_X12_pathOf (tr_sav I s) x y w h) w h) 9 0 (tq_u (tr_sav I s) 118 (143 + 10 * tq_N y + tq_N x) (nI 0)))) (J' := J) rfl ?_
          exact EV_iret C hZ rfl (by decide +kernel) (Nat.le_refl _) (Nat.le_refl _) ⟨tq_some (by simp only [r_X12_setPath, if_neg h1, if_pos h2, if_neg h5, if_pos h6]), rfl, rfl, by simp only [I_X12_setPath, if_neg h1, if_pos h2, if_neg h5, if_pos h6], rfl⟩
        · skip
          refine EV_blk (own := 12) C rfl [(.iconst 1, 0, 0, 0, (nI 1)), (.goto 4, 0, 0, 0, 0)] (pc' := 62) (by decide +kernel) (lv' := [some (.ref 117), some (.int x), some (.int y), some (.int b), some (.int (r_X12_pathOf (tr_sav I s) x y w h)), none]) (st' := [.int (nI 1), .int (((nI 143) + ((nI 10) * y)) + x), .ref 118]) (I' := (tr_sav I s)) (J' := J) rfl ?_
          refine EV_iast (j := (143 + 10 * tq_N y + tq_N x)) C (by decide +kernel) rfl (tq_ixr 143 10 hxy.1 (by omega) hxy.2.1 (by omega) (by decide) (by decide)) (by omega) ?_
          refine EV_blk (own := 12) C rfl [(.iconst 0, 0, 0, 0, (nI 0)), (.istore 5, 0, 0, 0, 0)] (pc' := 66) (by decide +kernel) (lv' := [some (.ref 117), some (.int x), some (.int y), some (.int b), some (.int (r_X12_pathOf (tr_sav I s) x y w h)), some (.int (nI 0))]) (st' := []) (I' := (tq_u (tr_sav I s) 118 (143 + 10 * tq_N y + tq_N x) (nI 1))) (J' := J) rfl ?_
          refine lp_sp1 C hR J x y b (r_X12_pathOf (tr_sav I s) x y w h) w h  9 0 (tq_u (tr_sav I s) 118 (143 + 10 * tq_N y + tq_N x) (nI 1)) (by omega) (k.sav.cong (tq_u_slot (by omega)) (tq_u_slot (by omega))) ?_
          refine EV_blk (own := 12) C rfl [(.iload 4, 0, 0, 0, 0)] (pc' := 101) (by decide +kernel) (lv' := [some (.ref 117), some (.int x), some (.int y), some (.int b), some (.int (r_X12_pathOf (tr_sav I s) x y w h)), some (.int (nI ((0 + 9))))]) (st' := [.int (r_X12_pathOf (tr_sav I s) x y w h)]) (I' := (tq_it (f_sp1 x y b (r_X12_pathOf (tr_sav I s) x y w h) w h) 9 0 (tq_u (tr_sav I s) 118 (143 + 10 * tq_N y + tq_N x) (nI 1)))) (J' := J) rfl ?_
          exact EV_iret C hZ rfl (by decide +kernel) (Nat.le_refl _) (Nat.le_refl _) ⟨tq_some (by simp only [r_X12_setPath, if_neg h1, if_pos h2, if_neg h5, if_neg h6]), rfl, rfl, by simp only [I_X12_setPath, if_neg h1, if_pos h2, if_neg h5, if_neg h6], rfl⟩
  · skip
    refine EV_blk (own := 12) C rfl [(.bipush (-2), 0, 0, 0, (-2))] (pc' := 11) (by decide +kernel) (lv' := [some (.ref 117), some (.int x), some (.int y), some (.int b), none, none]) (st' := [.int (-2)]) (I' := I) (J' := J) rfl ?_
    exact EV_iret C hZ rfl (by decide +kernel) (Nat.le_refl _) (Nat.le_refl _) ⟨tq_some (by simp only [r_X12_setPath, if_pos h1]), rfl, rfl, by simp only [I_X12_setPath, if_pos h1], rfl⟩
theorem fr_X12_setPath (I : tq_I) (x y b : Int32) (w h s : Nat) {cz : Nat} (hc : cz ≠ 117 ∧ cz ≠ 118) (jz : Nat) : I_X12_setPath I x y b w h s cz jz = I cz jz := by
  obtain ⟨hc0, hc1⟩ := hc
  simp only [I_X12_setPath]
  (repeat' split) <;> simp (disch := first | assumption | (simp only [ne_eq] at *; simp [*])) [tq_u, tq_cp, hc0, hc1, fr_X12_touches, fr_ta1, fr_X12_touchesAll, fr_cps1, fr_X12_copies, fr_sav, fr_bg1, fr_bg2, fr_X12_begins, fr_ly1, fr_X12_lays, fr_bgn1, fr_X12_begin, fr_X12_setCorner, fr_fi1, fr_X12_fill, fr_fg1, fr_X12_forgets, fr_rc1, fr_rc2, fr_X12_reaches, fr_mfl1, fr_X12_flood, fr_mrg1, fr_X12_regions, fr_mra1, fr_X12_raise, fr_sp1]
def f_ip1 (I : tq_I) (m : Int32) (i : Nat) (a : Int32) : Int32 := (if ((m >>> (((nI (1 + 2 * i)) - (nI 1)) &&& 31)) &&& (nI 1)) = (nI 1) then (if ((m >>> ((tq_rem ((nI (1 + 2 * i)) + (nI 1)) (nI 8)) &&& 31)) &&& (nI 1)) = (nI 1) then (if a = 0 then (nI 0) else (nI 1)) else (if a = 0 then (nI 0) else (if ((m >>> ((nI (1 + 2 * i)) &&& 31)) &&& (nI 1)) = 0 then (nI 1) else (nI 0)))) else (if a = 0 then (nI 0) else (if ((m >>> ((nI (1 + 2 * i)) &&& 31)) &&& (nI 1)) = 0 then (nI 1) else (nI 0))))
set_option maxRecDepth 20000 in
theorem lp_ip1 {g : tq_G} {x0 : tq_X} (C : tq_C g mX12_isPathMask x0) (hR : tq_ht x0 0 0 0) (I : tq_I) (J : Int64) (m : Int32)  : ∀ (n i : Nat) (a : Int32), i + n = 4 → EV g mX12_isPathMask x0 0 0 69 [some (.int m), some (.int (tq_it (f_ip1 I m) n i a)), some (.int (nI (1 + 2 * (i + n)))), none] [] (tq_SC ++ tq_SR) tq_RR I J → EV g mX12_isPathMask x0 0 0 4 [some (.int m), some (.int a), some (.int (nI (1 + 2 * i))), none] [] (tq_SC ++ tq_SR) tq_RR I J := by
  intro n
  induction n with
  | zero =>
    intro i a hi kk
    rw [Nat.add_zero] at kk
    refine EV_blk (own := 12) C rfl [(.iload_n 2, 0, 0, 0, 0), (.bipush 8, 0, 0, 0, (nI 8))] (pc' := 7) (by decide +kernel) (lv' := [some (.int m), some (.int a), some (.int (nI (1 + 2 * i))), none]) (st' := [.int (nI 8), .int (nI (1 + 2 * i))]) (I' := I) (J' := J) rfl ?_
    refine EV_icmp_ge (off := 62) (tgt := 69) C (by decide +kernel) (by decide) (fun h1 => ?_) (fun h1 => ?_)
    · skip
      exact kk
    · skip
      exact absurd h1 (by simp (disch := omega) only [Int32.lt_iff_toInt_lt, Int32.le_iff_toInt_le, Int32.toInt_zero, nI_toInt, tq_m1]; omega)
  | succ n ih =>
    intro i a hi kk
    rw [show i + (n + 1) = (i + 1) + n by omega] at kk
    refine EV_blk (own := 12) C rfl [(.iload_n 2, 0, 0, 0, 0), (.bipush 8, 0, 0, 0, (nI 8))] (pc' := 7) (by decide +kernel) (lv' := [some (.int m), some (.int a), some (.int (nI (1 + 2 * i))), none]) (st' := [.int (nI 8), .int (nI (1 + 2 * i))]) (I' := I) (J' := J) rfl ?_
    refine EV_icmp_ge (off := 62) (tgt := 69) C (by decide +kernel) (by decide) (fun h1 => ?_) (fun h1 => ?_)
    · skip
      exact absurd h1 (by simp (disch := omega) only [Int32.lt_iff_toInt_lt, Int32.le_iff_toInt_le, Int32.toInt_zero, nI_toInt, tq_m1]; omega)
    · skip
      refine EV_blk (own := 12) C rfl [(.iload_n 0, 0, 0, 0, 0), (.iload_n 2, 0, 0, 0, 0), (.iconst 1, 0, 0, 0, (nI 1)), (.isub, 0, 0, 0, 0), (.ishr, 0, 0, 0, 0), (.iconst 1, 0, 0, 0, (nI 1)), (.iand, 0, 0, 0, 0), (.iconst 1, 0, 0, 0, (nI 1))] (pc' := 18) (by decide +kernel) (lv' := [some (.int m), some (.int a), some (.int (nI (1 + 2 * i))), none]) (st' := [.int (nI 1), .int ((m >>> (((nI (1 + 2 * i)) - (nI 1)) &&& 31)) &&& (nI 1))]) (I' := I) (J' := J) rfl ?_
      refine EV_icmp_ne (off := 21) (tgt := 39) C (by decide +kernel) (by decide) (fun h2 => ?_) (fun h2 => ?_)
      · skip
        refine EV_blk (own := 12) C rfl [(.iconst 0, 0, 0, 0, (nI 0)), (.istore_n 3, 0, 0, 0, 0), (.iload_n 1, 0, 0, 0, 0)] (pc' := 42) (by decide +kernel) (lv' := [some (.int m), some (.int a), some (.int (nI (1 + 2 * i))), some (.int (nI 0))]) (st' := [.int a]) (I' := I) (J' := J) rfl ?_
        refine EV_if_eq (off := 19) (tgt := 61) C (by decide +kernel) (by decide) (fun h3 => ?_) (fun h3 => ?_)
        · skip
          refine EV_blk (own := 12) C rfl [(.iconst 0, 0, 0, 0, (nI 0)), (.istore_n 1, 0, 0, 0, 0), (.iinc 2 2, 0, 0, 0, (nI 2)), (.goto (-62), 0, 0, 0, 0)] (pc' := 4) (by decide +kernel) (lv' := [some (.int m), some (.int (nI 0)), some (.int ((nI (1 + 2 * i)) + (nI 2))), some (.int (nI 0))]) (st' := []) (I' := I) (J' := J) rfl ?_
          refine EV_fg (lv' := [some (.int m), some (.int (nI 0)), some (.int ((nI (1 + 2 * i)) + (nI 2))), none]) ⟨rfl, rfl, rfl, trivial⟩ ?_
          rw [show ((nI (1 + 2 * i)) + (nI 2)) = (nI (1 + 2 * (i + 1))) from by simp (disch := omega) only [nI_add, tq_mul] <;> exact congrArg nI (by omega)]
          rw [tq_its, show (f_ip1 I m) i a = (nI 0) from by simp only [f_ip1, if_neg h1, if_neg h2, if_pos h3]] at kk
          exact ih (i + 1) (nI 0) (by omega) kk
        · skip
          refine EV_blk (own := 12) C rfl [(.iload_n 3, 0, 0, 0, 0)] (pc' := 46) (by decide +kernel) (lv' := [some (.int m), some (.int a), some (.int (nI (1 + 2 * i))), some (.int (nI 0))]) (st' := [.int (nI 0)]) (I' := I) (J' := J) rfl ?_
          refine EV_if_ne (off := 11) (tgt := 57) C (by decide +kernel) (by decide) (fun h4 => ?_) (fun h4 => ?_)
          · skip
            exact absurd (by decide) h4
          · skip
            refine EV_blk (own := 12) C rfl [(.iload_n 0, 0, 0, 0, 0), (.iload_n 2, 0, 0, 0, 0), (.ishr, 0, 0, 0, 0), (.iconst 1, 0, 0, 0, (nI 1)), (.iand, 0, 0, 0, 0)] (pc' := 54) (by decide +kernel) (lv' := [some (.int m), some (.int a), some (.int (nI (1 + 2 * i))), some (.int (nI 0))]) (st' := [.int ((m >>> ((nI (1 + 2 * i)) &&& 31)) &&& (nI 1))]) (I' := I) (J' := J) rfl ?_
            refine EV_if_ne (off := 7) (tgt := 61) C (by decide +kernel) (by decide) (fun h5 => ?_) (fun h5 => ?_)
            · skip
              refine EV_blk (own := 12) C rfl [(.iconst 0, 0, 0, 0, (nI 0)), (.istore_n 1, 0, 0, 0, 0), (.iinc 2 2, 0, 0, 0, (nI 2)), (.goto (-62), 0, 0, 0, 0)] (pc' := 4) (by decide +kernel) (lv' := [some (.int m), some (.int (nI 0)), some (.int ((nI (1 + 2 * i)) + (nI 2))), some (.int (nI 0))]) (st' := []) (I' := I) (J' := J) rfl ?_
              refine EV_fg (lv' := [some (.int m), some (.int (nI 0)), some (.int ((nI (1 + 2 * i)) + (nI 2))), none]) ⟨rfl, rfl, rfl, trivial⟩ ?_
              rw [show ((nI (1 + 2 * i)) + (nI 2)) = (nI (1 + 2 * (i + 1))) from by simp (disch := omega) only [nI_add, tq_mul] <;> exact congrArg nI (by omega)]
              rw [tq_its, show (f_ip1 I m) i a = (nI 0) from by simp only [f_ip1, if_neg h1, if_neg h2, if_neg h3, if_pos h4, if_neg h5]] at kk
              exact ih (i + 1) (nI 0) (by omega) kk
            · skip
              refine EV_blk (own := 12) C rfl [(.iconst 1, 0, 0, 0, (nI 1)), (.goto 4, 0, 0, 0, 0), (.istore_n 1, 0, 0, 0, 0), (.iinc 2 2, 0, 0, 0, (nI 2)), (.goto (-62), 0, 0, 0, 0)] (pc' := 4) (by decide +kernel) (lv' := [some (.int m), some (.int (nI 1)), some (.int ((nI (1 + 2 * i)) + (nI 2))), some (.int (nI 0))]) (st' := []) (I' := I) (J' := J) rfl ?_
              refine EV_fg (lv' := [some (.int m), some (.int (nI 1)), some (.int ((nI (1 + 2 * i)) + (nI 2))), none]) ⟨rfl, rfl, rfl, trivial⟩ ?_
              rw [show ((nI (1 + 2 * i)) + (nI 2)) = (nI (1 + 2 * (i + 1))) from by simp (disch := omega) only [nI_add, tq_mul] <;> exact congrArg nI (by omega)]
              rw [tq_its, show (f_ip1 I m) i a = (nI 1) from by simp only [f_ip1, if_neg h1, if_neg h2, if_neg h3, if_pos h4, if_pos h5]] at kk
              exact ih (i + 1) (nI 1) (by omega) kk
      · skip
        refine EV_blk (own := 12) C rfl [(.iload_n 0, 0, 0, 0, 0), (.iload_n 2, 0, 0, 0, 0), (.iconst 1, 0, 0, 0, (nI 1)), (.iadd, 0, 0, 0, 0), (.bipush 8, 0, 0, 0, (nI 8))] (pc' := 27) (by decide +kernel) (lv' := [some (.int m), some (.int a), some (.int (nI (1 + 2 * i))), none]) (st' := [.int (nI 8), .int ((nI (1 + 2 * i)) + (nI 1)), .int m]) (I' := I) (J' := J) rfl ?_
        refine EV_irem C (by decide +kernel) (by decide) ?_
        refine EV_blk (own := 12) C rfl [(.ishr, 0, 0, 0, 0), (.iconst 1, 0, 0, 0, (nI 1)), (.iand, 0, 0, 0, 0), (.iconst 1, 0, 0, 0, (nI 1))] (pc' := 32) (by decide +kernel) (lv' := [some (.int m), some (.int a), some (.int (nI (1 + 2 * i))), none]) (st' := [.int (nI 1), .int ((m >>> ((tq_rem ((nI (1 + 2 * i)) + (nI 1)) (nI 8)) &&& 31)) &&& (nI 1))]) (I' := I) (J' := J) rfl ?_
        refine EV_icmp_ne (off := 7) (tgt := 39) C (by decide +kernel) (by decide) (fun h6 => ?_) (fun h6 => ?_)
        · skip
          refine EV_blk (own := 12) C rfl [(.iconst 0, 0, 0, 0, (nI 0)), (.istore_n 3, 0, 0, 0, 0), (.iload_n 1, 0, 0, 0, 0)] (pc' := 42) (by decide +kernel) (lv' := [some (.int m), some (.int a), some (.int (nI (1 + 2 * i))), some (.int (nI 0))]) (st' := [.int a]) (I' := I) (J' := J) rfl ?_
          refine EV_if_eq (off := 19) (tgt := 61) C (by decide +kernel) (by decide) (fun h7 => ?_) (fun h7 => ?_)
          · skip
            refine EV_blk (own := 12) C rfl [(.iconst 0, 0, 0, 0, (nI 0)), (.istore_n 1, 0, 0, 0, 0), (.iinc 2 2, 0, 0, 0, (nI 2)), (.goto (-62), 0, 0, 0, 0)] (pc' := 4) (by decide +kernel) (lv' := [some (.int m), some (.int (nI 0)), some (.int ((nI (1 + 2 * i)) + (nI 2))), some (.int (nI 0))]) (st' := []) (I' := I) (J' := J) rfl ?_
            refine EV_fg (lv' := [some (.int m), some (.int (nI 0)), some (.int ((nI (1 + 2 * i)) + (nI 2))), none]) ⟨rfl, rfl, rfl, trivial⟩ ?_
            rw [show ((nI (1 + 2 * i)) + (nI 2)) = (nI (1 + 2 * (i + 1))) from by simp (disch := omega) only [nI_add, tq_mul] <;> exact congrArg nI (by omega)]
            rw [tq_its, show (f_ip1 I m) i a = (nI 0) from by simp only [f_ip1, if_neg h1, if_pos h2, if_neg h6, if_pos h7]] at kk
            exact ih (i + 1) (nI 0) (by omega) kk
          · skip
            refine EV_blk (own := 12) C rfl [(.iload_n 3, 0, 0, 0, 0)] (pc' := 46) (by decide +kernel) (lv' := [some (.int m), some (.int a), some (.int (nI (1 + 2 * i))), some (.int (nI 0))]) (st' := [.int (nI 0)]) (I' := I) (J' := J) rfl ?_
            refine EV_if_ne (off := 11) (tgt := 57) C (by decide +kernel) (by decide) (fun h8 => ?_) (fun h8 => ?_)
            · skip
              exact absurd (by decide) h8
            · skip
              refine EV_blk (own := 12) C rfl [(.iload_n 0, 0, 0, 0, 0), (.iload_n 2, 0, 0, 0, 0), (.ishr, 0, 0, 0, 0), (.iconst 1, 0, 0, 0, (nI 1)), (.iand, 0, 0, 0, 0)] (pc' := 54) (by decide +kernel) (lv' := [some (.int m), some (.int a), some (.int (nI (1 + 2 * i))), some (.int (nI 0))]) (st' := [.int ((m >>> ((nI (1 + 2 * i)) &&& 31)) &&& (nI 1))]) (I' := I) (J' := J) rfl ?_
              refine EV_if_ne (off := 7) (tgt := 61) C (by decide +kernel) (by decide) (fun h9 => ?_) (fun h9 => ?_)
              · skip
                refine EV_blk (own := 12) C rfl [(.iconst 0, 0, 0, 0, (nI 0)), (.istore_n 1, 0, 0, 0, 0), (.iinc 2 2, 0, 0, 0, (nI 2)), (.goto (-62), 0, 0, 0, 0)] (pc' := 4) (by decide +kernel) (lv' := [some (.int m), some (.int (nI 0)), some (.int ((nI (1 + 2 * i)) + (nI 2))), some (.int (nI 0))]) (st' := []) (I' := I) (J' := J) rfl ?_
                refine EV_fg (lv' := [some (.int m), some (.int (nI 0)), some (.int ((nI (1 + 2 * i)) + (nI 2))), none]) ⟨rfl, rfl, rfl, trivial⟩ ?_
                rw [show ((nI (1 + 2 * i)) + (nI 2)) = (nI (1 + 2 * (i + 1))) from by simp (disch := omega) only [nI_add, tq_mul] <;> exact congrArg nI (by omega)]
                rw [tq_its, show (f_ip1 I m) i a = (nI 0) from by simp only [f_ip1, if_neg h1, if_pos h2, if_neg h6, if_neg h7, if_pos h8, if_neg h9]] at kk
                exact ih (i + 1) (nI 0) (by omega) kk
              · skip
                refine EV_blk (own := 12) C rfl [(.iconst 1, 0, 0, 0, (nI 1)), (.goto 4, 0, 0, 0, 0), (.istore_n 1, 0, 0, 0, 0), (.iinc 2 2, 0, 0, 0, (nI 2)), (.goto (-62), 0, 0, 0, 0)] (pc' := 4) (by decide +kernel) (lv' := [some (.int m), some (.int (nI 1)), some (.int ((nI (1 + 2 * i)) + (nI 2))), some (.int (nI 0))]) (st' := []) (I' := I) (J' := J) rfl ?_
                refine EV_fg (lv' := [some (.int m), some (.int (nI 1)), some (.int ((nI (1 + 2 * i)) + (nI 2))), none]) ⟨rfl, rfl, rfl, trivial⟩ ?_
                rw [show ((nI (1 + 2 * i)) + (nI 2)) = (nI (1 + 2 * (i + 1))) from by simp (disch := omega) only [nI_add, tq_mul] <;> exact congrArg nI (by omega)]
                rw [tq_its, show (f_ip1 I m) i a = (nI 1) from by simp only [f_ip1, if_neg h1, if_pos h2, if_neg h6, if_neg h7, if_pos h8, if_pos h9]] at kk
                exact ih (i + 1) (nI 1) (by omega) kk
        · skip
          refine EV_blk (own := 12) C rfl [(.iconst 1, 0, 0, 0, (nI 1)), (.goto 4, 0, 0, 0, 0), (.istore_n 3, 0, 0, 0, 0), (.iload_n 1, 0, 0, 0, 0)] (pc' := 42) (by decide +kernel) (lv' := [some (.int m), some (.int a), some (.int (nI (1 + 2 * i))), some (.int (nI 1))]) (st' := [.int a]) (I' := I) (J' := J) rfl ?_
          refine EV_if_eq (off := 19) (tgt := 61) C (by decide +kernel) (by decide) (fun h10 => ?_) (fun h10 => ?_)
          · skip
            refine EV_blk (own := 12) C rfl [(.iconst 0, 0, 0, 0, (nI 0)), (.istore_n 1, 0, 0, 0, 0), (.iinc 2 2, 0, 0, 0, (nI 2)), (.goto (-62), 0, 0, 0, 0)] (pc' := 4) (by decide +kernel) (lv' := [some (.int m), some (.int (nI 0)), some (.int ((nI (1 + 2 * i)) + (nI 2))), some (.int (nI 1))]) (st' := []) (I' := I) (J' := J) rfl ?_
            refine EV_fg (lv' := [some (.int m), some (.int (nI 0)), some (.int ((nI (1 + 2 * i)) + (nI 2))), none]) ⟨rfl, rfl, rfl, trivial⟩ ?_
            rw [show ((nI (1 + 2 * i)) + (nI 2)) = (nI (1 + 2 * (i + 1))) from by simp (disch := omega) only [nI_add, tq_mul] <;> exact congrArg nI (by omega)]
            rw [tq_its, show (f_ip1 I m) i a = (nI 0) from by simp only [f_ip1, if_neg h1, if_pos h2, if_pos h6, if_pos h10]] at kk
            exact ih (i + 1) (nI 0) (by omega) kk
          · skip
            refine EV_blk (own := 12) C rfl [(.iload_n 3, 0, 0, 0, 0)] (pc' := 46) (by decide +kernel) (lv' := [some (.int m), some (.int a), some (.int (nI (1 + 2 * i))), some (.int (nI 1))]) (st' := [.int (nI 1)]) (I' := I) (J' := J) rfl ?_
            refine EV_if_ne (off := 11) (tgt := 57) C (by decide +kernel) (by decide) (fun h11 => ?_) (fun h11 => ?_)
            · skip
              refine EV_blk (own := 12) C rfl [(.iconst 1, 0, 0, 0, (nI 1)), (.goto 4, 0, 0, 0, 0), (.istore_n 1, 0, 0, 0, 0), (.iinc 2 2, 0, 0, 0, (nI 2)), (.goto (-62), 0, 0, 0, 0)] (pc' := 4) (by decide +kernel) (lv' := [some (.int m), some (.int (nI 1)), some (.int ((nI (1 + 2 * i)) + (nI 2))), some (.int (nI 1))]) (st' := []) (I' := I) (J' := J) rfl ?_
              refine EV_fg (lv' := [some (.int m), some (.int (nI 1)), some (.int ((nI (1 + 2 * i)) + (nI 2))), none]) ⟨rfl, rfl, rfl, trivial⟩ ?_
              rw [show ((nI (1 + 2 * i)) + (nI 2)) = (nI (1 + 2 * (i + 1))) from by simp (disch := omega) only [nI_add, tq_mul] <;> exact congrArg nI (by omega)]
              rw [tq_its, show (f_ip1 I m) i a = (nI 1) from by simp only [f_ip1, if_neg h1, if_pos h2, if_pos h6, if_neg h10, if_neg h11]] at kk
              exact ih (i + 1) (nI 1) (by omega) kk
            · skip
              exact absurd h11 (by decide)
theorem tr_ip1 (I : tq_I) (m : Int32) (n i : Nat) (a : Int32) (h : a = 0 ∨ a = 1) : tq_it (f_ip1 I m) n i a = 0 ∨ tq_it (f_ip1 I m) n i a = 1 := by
  refine tq_itP (fun b => b = 0 ∨ b = 1) (fun i b hb => ?_) n i a h
  unfold f_ip1
  (repeat' split) <;> first | exact Or.inl rfl | exact Or.inr rfl
def r_X12_isPathMask (I : tq_I) (m : Int32) : Int32 := (tq_it (f_ip1 I m) 4 0 (nI 1))
set_option maxRecDepth 20000 in
theorem c_X12_isPathMask (g : tq_G) (I : tq_I) (J : Int64) (m : Int32)  : CT g mX12_isPathMask 0 0 0 [.int m] (tq_SC ++ tq_SR) tq_RR I J (tq_ret (tq_SC ++ tq_SR) tq_RR (some (.int (r_X12_isPathMask I m))) I J) := by
  refine CT.ret kX12_isPathMask (Nat.le_of_ble_eq_true rfl) (fun x0 C hR hZ => ?_)
  refine EV_en (lv' := [some (.int m), none, none, none]) 3 rfl ?_
  refine EV_blk (own := 12) C rfl [(.iconst 1, 0, 0, 0, (nI 1)), (.istore_n 1, 0, 0, 0, 0), (.iconst 1, 0, 0, 0, (nI 1)), (.istore_n 2, 0, 0, 0, 0)] (pc' := 4) (by decide +kernel) (lv' := [some (.int m), some (.int (nI 1)), some (.int (nI 1)), none]) (st' := []) (I' := I) (J' := J) rfl ?_
  refine lp_ip1 C hR I J m  4 0 (nI 1) (by omega) ?_
  refine EV_blk (own := 12) C rfl [(.iload_n 1, 0, 0, 0, 0)] (pc' := 70) (by decide +kernel) (lv' := [some (.int m), some (.int (tq_it (f_ip1 I m) 4 0 (nI 1))), some (.int (nI (1 + 2 * (0 + 4)))), none]) (st' := [.int (tq_it (f_ip1 I m) 4 0 (nI 1))]) (I' := I) (J' := J) rfl ?_
  exact EV_zret C hZ rfl (tr_ip1 _ _ _ _ _ (Or.inr rfl)) (by decide +kernel) (Nat.le_refl _) (Nat.le_refl _) ⟨tq_some (by simp only [r_X12_isPathMask]), rfl, rfl, rfl, rfl⟩
def f_mk1 (I : tq_I) (x y : Int32) (w h : Nat) (i : Nat) (a : Int32) : Int32 := (a ||| ((r_X12_pathOf I (x + (I 122 i)) (y + (I 123 i)) w h) <<< ((nI i) &&& 31)))
set_option maxRecDepth 20000 in
theorem lp_mk1 {g : tq_G} {x0 : tq_X} (C : tq_C g mX12_maskOf x0) (hR : tq_ht x0 3 0 0) (I : tq_I) (J : Int64) (x y : Int32) (w h : Nat) (k : tr_wh I w h) : ∀ (n i : Nat) (a : Int32), i + n = 8 → EV g mX12_maskOf x0 0 0 57 [some (.ref 117), some (.int x), some (.int y), some (.int (tq_it (f_mk1 I x y w h) n i a)), some (.int (nI (i + n))), none] [] (tq_SC ++ tq_SR) tq_RR I J → EV g mX12_maskOf x0 0 0 16 [some (.ref 117), some (.int x), some (.int y), some (.int a), some (.int (nI i)), none] [] (tq_SC ++ tq_SR) tq_RR I J := by
  intro n
  induction n with
  | zero =>
    intro i a hi kk
    rw [Nat.add_zero] at kk
    refine EV_blk (own := 12) C rfl [(.iload 4, 0, 0, 0, 0), (.bipush 8, 0, 0, 0, (nI 8))] (pc' := 20) (by decide +kernel) (lv' := [some (.ref 117), some (.int x), some (.int y), some (.int a), some (.int (nI i)), none]) (st' := [.int (nI 8), .int (nI i)]) (I' := I) (J' := J) rfl ?_
    refine EV_icmp_ge (off := 37) (tgt := 57) C (by decide +kernel) (by decide) (fun h1 => ?_) (fun h1 => ?_)
    · skip
      exact kk
    · skip
      exact absurd h1 (by simp (disch := omega) only [Int32.lt_iff_toInt_lt, Int32.le_iff_toInt_le, Int32.toInt_zero, nI_toInt, tq_m1]; omega)
  | succ n ih =>
    intro i a hi kk
    rw [show i + (n + 1) = (i + 1) + n by omega] at kk
    refine EV_blk (own := 12) C rfl [(.iload 4, 0, 0, 0, 0), (.bipush 8, 0, 0, 0, (nI 8))] (pc' := 20) (by decide +kernel) (lv' := [some (.ref 117), some (.int x), some (.int y), some (.int a), some (.int (nI i)), none]) (st' := [.int (nI 8), .int (nI i)]) (I' := I) (J' := J) rfl ?_
    refine EV_icmp_ge (off := 37) (tgt := 57) C (by decide +kernel) (by decide) (fun h1 => ?_) (fun h1 => ?_)
    · skip
      exact absurd h1 (by simp (disch := omega) only [Int32.lt_iff_toInt_lt, Int32.le_iff_toInt_le, Int32.toInt_zero, nI_toInt, tq_m1]; omega)
    · skip
      refine EV_blk (own := 12) C rfl [(.iload_n 3, 0, 0, 0, 0), (.aload_n 0, 0, 0, 0, 0), (.iload_n 1, 0, 0, 0, 0), (.aload_n 0, 0, 0, 0, 0), (.getfield 23, 12, 7, 906, 0), (.iload 4, 0, 0, 0, 0)] (pc' := 32) (by decide +kernel) (lv' := [some (.ref 117), some (.int x), some (.int y), some (.int a), some (.int (nI i)), none]) (st' := [.int (nI i), .ref 122, .int x, .ref 117, .int a]) (I' := I) (J' := J) rfl ?_
      refine EV_iald (j := i) C (by decide +kernel) rfl (nI_toInt (by omega)) (by omega) ?_
      refine EV_blk (own := 12) C rfl [(.iadd, 0, 0, 0, 0), (.iload_n 2, 0, 0, 0, 0), (.aload_n 0, 0, 0, 0, 0), (.getfield 26, 12, 8, 907, 0), (.iload 4, 0, 0, 0, 0)] (pc' := 41) (by decide +kernel) (lv' := [some (.ref 117), some (.int x), some (.int y), some (.int a), some (.int (nI i)), none]) (st' := [.int (nI i), .ref 123, .int y, .int (x + (I 122 i)), .ref 117, .int a]) (I' := I) (J' := J) rfl ?_
      refine EV_iald (j := i) C (by decide +kernel) rfl (nI_toInt (by omega)) (by omega) ?_
      refine EV_blk (own := 12) C rfl [(.iadd, 0, 0, 0, 0)] (pc' := 43) (by decide +kernel) (lv' := [some (.ref 117), some (.int x), some (.int y), some (.int a), some (.int (nI i)), none]) (st' := [.int (y + (I 123 i)), .int (x + (I 122 i)), .ref 117, .int a]) (I' := I) (J' := J) rfl ?_
      refine EV_cV (own := 12) (idx := 110) (μ' := mX12_pathOf) (b := 117) (cb := 12) (av := [.int (x + (I 122 i)), .int (y + (I 123 i))]) (rest := [.int a]) C hR rfl (Or.inl ⟨1057, by decide⟩) kX12_pathOf sX12_pathOf (c_X12_pathOf g I J (x + (I 122 i)) (y + (I 123 i)) w h k) rfl rfl (by decide +kernel) rfl (by decide) (Nat.le_of_ble_eq_true rfl) rfl ⟨Nat.zero_le _, Nat.zero_le _⟩ ?_
      refine EV_blk (own := 12) C rfl [(.iload 4, 0, 0, 0, 0), (.ishl, 0, 0, 0, 0), (.ior, 0, 0, 0, 0), (.istore_n 3, 0, 0, 0, 0), (.iinc 4 1, 0, 0, 0, (nI 1)), (.goto (-38), 0, 0, 0, 0)] (pc' := 16) (by decide +kernel) (lv' := [some (.ref 117), some (.int x), some (.int y), some (.int (a ||| ((r_X12_pathOf I (x + (I 122 i)) (y + (I 123 i)) w h) <<< ((nI i) &&& 31)))), some (.int ((nI i) + (nI 1))), none]) (st' := []) (I' := I) (J' := J) rfl ?_
      rw [show ((nI i) + (nI 1)) = (nI (i + 1)) from by simp (disch := omega) only [nI_add, tq_mul] <;> exact congrArg nI (by omega)]
      rw [tq_its, show (f_mk1 I x y w h) i a = (a ||| ((r_X12_pathOf I (x + (I 122 i)) (y + (I 123 i)) w h) <<< ((nI i) &&& 31))) from by simp only [f_mk1, if_neg h1]] at kk
      exact ih (i + 1) (a ||| ((r_X12_pathOf I (x + (I 122 i)) (y + (I 123 i)) w h) <<< ((nI i) &&& 31))) (by omega) kk
def f_mk2 (I : tq_I) (x y : Int32) (w h : Nat) (i : Nat) (a : Int32) : Int32 := (if ((a >>> (((nI (1 + 2 * i)) - (nI 1)) &&& 31)) &&& (nI 1)) = (nI 1) then (if ((a >>> ((tq_rem ((nI (1 + 2 * i)) + (nI 1)) (nI 8)) &&& 31)) &&& (nI 1)) = (nI 1) then (a &&& (nI 255)) else (a &&& (((nI 1) <<< ((nI (1 + 2 * i)) &&& 31)) ^^^ (-1)))) else (a &&& (((nI 1) <<< ((nI (1 + 2 * i)) &&& 31)) ^^^ (-1))))
set_option maxRecDepth 20000 in
theorem lp_mk2 {g : tq_G} {x0 : tq_X} (C : tq_C g mX12_maskOf x0) (hR : tq_ht x0 3 0 0) (I : tq_I) (J : Int64) (x y : Int32) (w h : Nat)  : ∀ (n i : Nat) (a : Int32), i + n = 4 → EV g mX12_maskOf x0 0 0 127 [some (.ref 117), some (.int x), some (.int y), some (.int (tq_it (f_mk2 I x y w h) n i a)), some (.int (nI (1 + 2 * (i + n)))), none] [] (tq_SC ++ tq_SR) tq_RR I J → EV g mX12_maskOf x0 0 0 60 [some (.ref 117), some (.int x), some (.int y), some (.int a), some (.int (nI (1 + 2 * i))), none] [] (tq_SC ++ tq_SR) tq_RR I J := by
  intro n
  induction n with
  | zero =>
    intro i a hi kk
    rw [Nat.add_zero] at kk
    refine EV_blk (own := 12) C rfl [(.iload 4, 0, 0, 0, 0), (.bipush 8, 0, 0, 0, (nI 8))] (pc' := 64) (by decide +kernel) (lv' := [some (.ref 117), some (.int x), some (.int y), some (.int a), some (.int (nI (1 + 2 * i))), none]) (st' := [.int (nI 8), .int (nI (1 + 2 * i))]) (I' := I) (J' := J) rfl ?_
    refine EV_icmp_ge (off := 63) (tgt := 127) C (by decide +kernel) (by decide) (fun h1 => ?_) (fun h1 => ?_)
    · skip
      exact kk
    · skip
      exact absurd h1 (by simp (disch := omega) only [Int32.lt_iff_toInt_lt, Int32.le_iff_toInt_le, Int32.toInt_zero, nI_toInt, tq_m1]; omega)
  | succ n ih =>
    intro i a hi kk
    rw [show i + (n + 1) = (i + 1) + n by omega] at kk
    refine EV_blk (own := 12) C rfl [(.iload 4, 0, 0, 0, 0), (.bipush 8, 0, 0, 0, (nI 8))] (pc' := 64) (by decide +kernel) (lv' := [some (.ref 117), some (.int x), some (.int y), some (.int a), some (.int (nI (1 + 2 * i))), none]) (st' := [.int (nI 8), .int (nI (1 + 2 * i))]) (I' := I) (J' := J) rfl ?_
    refine EV_icmp_ge (off := 63) (tgt := 127) C (by decide +kernel) (by decide) (fun h1 => ?_) (fun h1 => ?_)
    · skip
      exact absurd h1 (by simp (disch := omega) only [Int32.lt_iff_toInt_lt, Int32.le_iff_toInt_le, Int32.toInt_zero, nI_toInt, tq_m1]; omega)
    · skip
      refine EV_blk (own := 12) C rfl [(.iload_n 3, 0, 0, 0, 0), (.iload 4, 0, 0, 0, 0), (.iconst 1, 0, 0, 0, (nI 1)), (.isub, 0, 0, 0, 0), (.ishr, 0, 0, 0, 0), (.iconst 1, 0, 0, 0, (nI 1)), (.iand, 0, 0, 0, 0), (.iconst 1, 0, 0, 0, (nI 1))] (pc' := 76) (by decide +kernel) (lv' := [some (.ref 117), some (.int x), some (.int y), some (.int a), some (.int (nI (1 + 2 * i))), none]) (st' := [.int (nI 1), .int ((a >>> (((nI (1 + 2 * i)) - (nI 1)) &&& 31)) &&& (nI 1))]) (I' := I) (J' := J) rfl ?_
      refine EV_icmp_ne (off := 22) (tgt := 98) C (by decide +kernel) (by decide) (fun h2 => ?_) (fun h2 => ?_)
      · skip
        refine EV_blk (own := 12) C rfl [(.iconst 0, 0, 0, 0, (nI 0)), (.istore 5, 0, 0, 0, 0), (.iload_n 3, 0, 0, 0, 0), (.iload 5, 0, 0, 0, 0)] (pc' := 104) (by decide +kernel) (lv' := [some (.ref 117), some (.int x), some (.int y), some (.int a), some (.int (nI (1 + 2 * i))), some (.int (nI 0))]) (st' := [.int (nI 0), .int a]) (I' := I) (J' := J) rfl ?_
        refine EV_if_eq (off := 9) (tgt := 113) C (by decide +kernel) (by decide) (fun h3 => ?_) (fun h3 => ?_)
        · skip
          refine EV_blk (own := 12) C rfl [(.iconst 1, 0, 0, 0, (nI 1)), (.iload 4, 0, 0, 0, 0), (.ishl, 0, 0, 0, 0), (.iconst (-1), 0, 0, 0, (-1)), (.ixor, 0, 0, 0, 0), (.iand, 0, 0, 0, 0), (.istore_n 3, 0, 0, 0, 0), (.iinc 4 2, 0, 0, 0, (nI 2)), (.goto (-64), 0, 0, 0, 0)] (pc' := 60) (by decide +kernel) (lv' := [some (.ref 117), some (.int x), some (.int y), some (.int (a &&& (((nI 1) <<< ((nI (1 + 2 * i)) &&& 31)) ^^^ (-1)))), some (.int ((nI (1 + 2 * i)) + (nI 2))), some (.int (nI 0))]) (st' := []) (I' := I) (J' := J) rfl ?_
          refine EV_fg (lv' := [some (.ref 117), some (.int x), some (.int y), some (.int (a &&& (((nI 1) <<< ((nI (1 + 2 * i)) &&& 31)) ^^^ (-1)))), some (.int ((nI (1 + 2 * i)) + (nI 2))), none]) ⟨rfl, rfl, rfl, rfl, rfl, trivial⟩ ?_
          rw [show ((nI (1 + 2 * i)) + (nI 2)) = (nI (1 + 2 * (i + 1))) from by simp (disch := omega) only [nI_add, tq_mul] <;> exact congrArg nI (by omega)]
          rw [tq_its, show (f_mk2 I x y w h) i a = (a &&& (((nI 1) <<< ((nI (1 + 2 * i)) &&& 31)) ^^^ (-1))) from by simp only [f_mk2, if_neg h1, if_neg h2, if_pos h3]] at kk
          exact ih (i + 1) (a &&& (((nI 1) <<< ((nI (1 + 2 * i)) &&& 31)) ^^^ (-1))) (by omega) kk
        · skip
          exact absurd (by decide) h3
      · skip
        refine EV_blk (own := 12) C rfl [(.iload_n 3, 0, 0, 0, 0), (.iload 4, 0, 0, 0, 0), (.iconst 1, 0, 0, 0, (nI 1)), (.iadd, 0, 0, 0, 0), (.bipush 8, 0, 0, 0, (nI 8))] (pc' := 86) (by decide +kernel) (lv' := [some (.ref 117), some (.int x), some (.int y), some (.int a), some (.int (nI (1 + 2 * i))), none]) (st' := [.int (nI 8), .int ((nI (1 + 2 * i)) + (nI 1)), .int a]) (I' := I) (J' := J) rfl ?_
        refine EV_irem C (by decide +kernel) (by decide) ?_
        refine EV_blk (own := 12) C rfl [(.ishr, 0, 0, 0, 0), (.iconst 1, 0, 0, 0, (nI 1)), (.iand, 0, 0, 0, 0), (.iconst 1, 0, 0, 0, (nI 1))] (pc' := 91) (by decide +kernel) (lv' := [some (.ref 117), some (.int x), some (.int y), some (.int a), some (.int (nI (1 + 2 * i))), none]) (st' := [.int (nI 1), .int ((a >>> ((tq_rem ((nI (1 + 2 * i)) + (nI 1)) (nI 8)) &&& 31)) &&& (nI 1))]) (I' := I) (J' := J) rfl ?_
        refine EV_icmp_ne (off := 7) (tgt := 98) C (by decide +kernel) (by decide) (fun h4 => ?_) (fun h4 => ?_)
        · skip
          refine EV_blk (own := 12) C rfl [(.iconst 0, 0, 0, 0, (nI 0)), (.istore 5, 0, 0, 0, 0), (.iload_n 3, 0, 0, 0, 0), (.iload 5, 0, 0, 0, 0)] (pc' := 104) (by decide +kernel) (lv' := [some (.ref 117), some (.int x), some (.int y), some (.int a), some (.int (nI (1 + 2 * i))), some (.int (nI 0))]) (st' := [.int (nI 0), .int a]) (I' := I) (J' := J) rfl ?_
          refine EV_if_eq (off := 9) (tgt := 113) C (by decide +kernel) (by decide) (fun h5 => ?_) (fun h5 => ?_)
          · skip
            refine EV_blk (own := 12) C rfl [(.iconst 1, 0, 0, 0, (nI 1)), (.iload 4, 0, 0, 0, 0), (.ishl, 0, 0, 0, 0), (.iconst (-1), 0, 0, 0, (-1)), (.ixor, 0, 0, 0, 0), (.iand, 0, 0, 0, 0), (.istore_n 3, 0, 0, 0, 0), (.iinc 4 2, 0, 0, 0, (nI 2)), (.goto (-64), 0, 0, 0, 0)] (pc' := 60) (by decide +kernel) (lv' := [some (.ref 117), some (.int x), some (.int y), some (.int (a &&& (((nI 1) <<< ((nI (1 + 2 * i)) &&& 31)) ^^^ (-1)))), some (.int ((nI (1 + 2 * i)) + (nI 2))), some (.int (nI 0))]) (st' := []) (I' := I) (J' := J) rfl ?_
            refine EV_fg (lv' := [some (.ref 117), some (.int x), some (.int y), some (.int (a &&& (((nI 1) <<< ((nI (1 + 2 * i)) &&& 31)) ^^^ (-1)))), some (.int ((nI (1 + 2 * i)) + (nI 2))), none]) ⟨rfl, rfl, rfl, rfl, rfl, trivial⟩ ?_
            rw [show ((nI (1 + 2 * i)) + (nI 2)) = (nI (1 + 2 * (i + 1))) from by simp (disch := omega) only [nI_add, tq_mul] <;> exact congrArg nI (by omega)]
            rw [tq_its, show (f_mk2 I x y w h) i a = (a &&& (((nI 1) <<< ((nI (1 + 2 * i)) &&& 31)) ^^^ (-1))) from by simp only [f_mk2, if_neg h1, if_pos h2, if_neg h4, if_pos h5]] at kk
            exact ih (i + 1) (a &&& (((nI 1) <<< ((nI (1 + 2 * i)) &&& 31)) ^^^ (-1))) (by omega) kk
          · skip
            exact absurd (by decide) h5
        · skip
          refine EV_blk (own := 12) C rfl [(.iconst 1, 0, 0, 0, (nI 1)), (.goto 4, 0, 0, 0, 0), (.istore 5, 0, 0, 0, 0), (.iload_n 3, 0, 0, 0, 0), (.iload 5, 0, 0, 0, 0)] (pc' := 104) (by decide +kernel) (lv' := [some (.ref 117), some (.int x), some (.int y), some (.int a), some (.int (nI (1 + 2 * i))), some (.int (nI 1))]) (st' := [.int (nI 1), .int a]) (I' := I) (J' := J) rfl ?_
          refine EV_if_eq (off := 9) (tgt := 113) C (by decide +kernel) (by decide) (fun h6 => ?_) (fun h6 => ?_)
          · skip
            exact absurd h6 (by decide)
          · skip
            refine EV_blk (own := 12) C rfl [(.sipush 255, 0, 0, 0, (nI 255)), (.goto 9, 0, 0, 0, 0), (.iand, 0, 0, 0, 0), (.istore_n 3, 0, 0, 0, 0), (.iinc 4 2, 0, 0, 0, (nI 2)), (.goto (-64), 0, 0, 0, 0)] (pc' := 60) (by decide +kernel) (lv' := [some (.ref 117), some (.int x), some (.int y), some (.int (a &&& (nI 255))), some (.int ((nI (1 + 2 * i)) + (nI 2))), some (.int (nI 1))]) (st' := []) (I' := I) (J' := J) rfl ?_
            refine EV_fg (lv' := [some (.ref 117), some (.int x), some (.int y), some (.int (a &&& (nI 255))), some (.int ((nI (1 + 2 * i)) + (nI 2))), none]) ⟨rfl, rfl, rfl, rfl, rfl, trivial⟩ ?_
            rw [show ((nI (1 + 2 * i)) + (nI 2)) = (nI (1 + 2 * (i + 1))) from by simp (disch := omega) only [nI_add, tq_mul] <;> exact congrArg nI (by omega)]
            rw [tq_its, show (f_mk2 I x y w h) i a = (a &&& (nI 255)) from by simp only [f_mk2, if_neg h1, if_pos h2, if_pos h4, if_neg h6]] at kk
            exact ih (i + 1) (a &&& (nI 255)) (by omega) kk
def r_X12_maskOf (I : tq_I) (x y : Int32) (w h : Nat) : Int32 := (if (r_X12_pathOf I x y w h) = 0 then (-1) else (tq_it (f_mk2 I x y w h) 4 0 (tq_it (f_mk1 I x y w h) 8 0 (nI 0))))
set_option maxRecDepth 20000 in
theorem c_X12_maskOf (g : tq_G) (I : tq_I) (J : Int64) (x y : Int32) (w h : Nat) (k : tr_wh I w h) : CT g mX12_maskOf 3 0 0 [.ref 117, .int x, .int y] (tq_SC ++ tq_SR) tq_RR I J (tq_ret (tq_SC ++ tq_SR) tq_RR (some (.int (r_X12_maskOf I x y w h))) I J) := by
  refine CT.ret kX12_maskOf (Nat.le_of_ble_eq_true rfl) (fun x0 C hR hZ => ?_)
  refine EV_en (lv' := [some (.ref 117), some (.int x), some (.int y), none, none, none]) 3 rfl ?_
  refine EV_blk (own := 12) C rfl [(.aload_n 0, 0, 0, 0, 0), (.iload_n 1, 0, 0, 0, 0), (.iload_n 2, 0, 0, 0, 0)] (pc' := 3) (by decide +kernel) (lv' := [some (.ref 117), some (.int x), some (.int y), none, none, none]) (st' := [.int y, .int x, .ref 117]) (I' := I) (J' := J) rfl ?_
  refine EV_cV (own := 12) (idx := 110) (μ' := mX12_pathOf) (b := 117) (cb := 12) (av := [.int x, .int y]) (rest := []) C hR rfl (Or.inl ⟨1057, by decide⟩) kX12_pathOf sX12_pathOf (c_X12_pathOf g I J x y w h k) rfl rfl (by decide +kernel) rfl (by decide) (Nat.le_of_ble_eq_true rfl) rfl ⟨Nat.zero_le _, Nat.zero_le _⟩ ?_
  refine EV_if_ne (off := 5) (tgt := 11) C (by decide +kernel) (by decide) (fun h1 => ?_) (fun h1 => ?_)
  · skip
    refine EV_blk (own := 12) C rfl [(.iconst 0, 0, 0, 0, (nI 0)), (.istore_n 3, 0, 0, 0, 0), (.iconst 0, 0, 0, 0, (nI 0)), (.istore 4, 0, 0, 0, 0)] (pc' := 16) (by decide +kernel) (lv' := [some (.ref 117), some (.int x), some (.int y), some (.int (nI 0)), some (.int (nI 0)), none]) (st' := []) (I' := I) (J' := J) rfl ?_
    refine lp_mk1 C hR I J x y w h k 8 0 (nI 0) (by omega) ?_
    refine EV_blk (own := 12) C rfl [(.iconst 1, 0, 0, 0, (nI 1)), (.istore 4, 0, 0, 0, 0)] (pc' := 60) (by decide +kernel) (lv' := [some (.ref 117), some (.int x), some (.int y), some (.int (tq_it (f_mk1 I x y w h) 8 0 (nI 0))), some (.int (nI 1)), none]) (st' := []) (I' := I) (J' := J) rfl ?_
    refine lp_mk2 C hR I J x y w h  4 0 (tq_it (f_mk1 I x y w h) 8 0 (nI 0)) (by omega) ?_
    refine EV_blk (own := 12) C rfl [(.iload_n 3, 0, 0, 0, 0)] (pc' := 128) (by decide +kernel) (lv' := [some (.ref 117), some (.int x), some (.int y), some (.int (tq_it (f_mk2 I x y w h) 4 0 (tq_it (f_mk1 I x y w h) 8 0 (nI 0)))), some (.int (nI (1 + 2 * (0 + 4)))), none]) (st' := [.int (tq_it (f_mk2 I x y w h) 4 0 (tq_it (f_mk1 I x y w h) 8 0 (nI 0)))]) (I' := I) (J' := J) rfl ?_
    exact EV_iret C hZ rfl (by decide +kernel) (Nat.le_refl _) (Nat.le_refl _) ⟨tq_some (by simp only [r_X12_maskOf, if_neg h1]), rfl, rfl, rfl, rfl⟩
  · skip
    refine EV_blk (own := 12) C rfl [(.iconst (-1), 0, 0, 0, (-1))] (pc' := 10) (by decide +kernel) (lv' := [some (.ref 117), some (.int x), some (.int y), none, none, none]) (st' := [.int (-1)]) (I' := I) (J' := J) rfl ?_
    exact EV_iret C hZ rfl (by decide +kernel) (Nat.le_refl _) (Nat.le_refl _) ⟨tq_some (by simp only [r_X12_maskOf, if_pos h1]), rfl, rfl, rfl, rfl⟩
def f_ptl1 (I : tq_I) (x y m : Int32) (q : Nat) (i : Nat) (a : Int32) : Int32 := (if (r_X12_isPathMask I (nI i)) = 0 then (a + (nI 0)) else (a + (nI 1)))
set_option maxRecDepth 20000 in
theorem lp_ptl1 {g : tq_G} {x0 : tq_X} (C : tq_C g mX12_pathTileOf x0) (hR : tq_ht x0 4 0 0) (I : tq_I) (J : Int64) (x y m : Int32) (q : Nat) (hm : m.toInt = (q : Int) ∨ (m.toInt < 0 ∧ q = 0)) (hq : q < 2 ^ 31) : ∀ (n i : Nat) (a : Int32), i + n = q → EV g mX12_pathTileOf x0 0 0 43 [some (.ref 117), some (.int x), some (.int y), some (.int m), some (.int (tq_it (f_ptl1 I x y m q) n i a)), some (.int (nI (i + n)))] [] (tq_SC ++ tq_SR) tq_RR I J → EV g mX12_pathTileOf x0 0 0 13 [some (.ref 117), some (.int x), some (.int y), some (.int m), some (.int a), some (.int (nI i))] [] (tq_SC ++ tq_SR) tq_RR I J := by
  intro n
  induction n with
  | zero =>
    intro i a hi kk
    rw [Nat.add_zero] at kk
    refine EV_blk (own := 12) C rfl [(.iload 5, 0, 0, 0, 0), (.iload_n 3, 0, 0, 0, 0)] (pc' := 16) (by decide +kernel) (lv' := [some (.ref 117), some (.int x), some (.int y), some (.int m), some (.int a), some (.int (nI i))]) (st' := [.int m, .int (nI i)]) (I' := I) (J' := J) rfl ?_
    refine EV_icmp_ge (off := 27) (tgt := 43) C (by decide +kernel) (by decide) (fun h1 => ?_) (fun h1 => ?_)
    · skip
      exact kk
    · skip
      exact absurd h1 (by simp (disch := omega) only [Int32.lt_iff_toInt_lt, Int32.le_iff_toInt_le, Int32.toInt_zero, nI_toInt, tq_m1]; omega)
  | succ n ih =>
    intro i a hi kk
    rw [show i + (n + 1) = (i + 1) + n by omega] at kk
    refine EV_blk (own := 12) C rfl [(.iload 5, 0, 0, 0, 0), (.iload_n 3, 0, 0, 0, 0)] (pc' := 16) (by decide +kernel) (lv' := [some (.ref 117), some (.int x), some (.int y), some (.int m), some (.int a), some (.int (nI i))]) (st' := [.int m, .int (nI i)]) (I' := I) (J' := J) rfl ?_
    refine EV_icmp_ge (off := 27) (tgt := 43) C (by decide +kernel) (by decide) (fun h1 => ?_) (fun h1 => ?_)
    · skip
      exact absurd h1 (by simp (disch := omega) only [Int32.lt_iff_toInt_lt, Int32.le_iff_toInt_le, Int32.toInt_zero, nI_toInt, tq_m1]; omega)
    · skip
      refine EV_blk (own := 12) C rfl [(.iload 4, 0, 0, 0, 0), (.iload 5, 0, 0, 0, 0)] (pc' := 23) (by decide +kernel) (lv' := [some (.ref 117), some (.int x), some (.int y), some (.int m), some (.int a), some (.int (nI i))]) (st' := [.int (nI i), .int a]) (I' := I) (J' := J) rfl ?_
      refine EV_cS (own := 12) (idx := 116) (μ' := mX12_isPathMask) (av := [.int (nI i)]) (rest := [.int a]) C hR rfl (Or.inl ⟨1081, by decide⟩) kX12_isPathMask sX12_isPathMask (c_X12_isPathMask g I J (nI i) ) (by decide +kernel) rfl (by decide) (Nat.le_of_ble_eq_true rfl) rfl ⟨Nat.zero_le _, Nat.zero_le _⟩ ?_
      refine EV_if_eq (off := 7) (tgt := 33) C (by decide +kernel) (by decide) (fun h2 => ?_) (fun h2 => ?_)
      · skip
        refine EV_blk (own := 12) C rfl [(.iconst 0, 0, 0, 0, (nI 0)), (.iadd, 0, 0, 0, 0), (.istore 4, 0, 0, 0, 0), (.iinc 5 1, 0, 0, 0, (nI 1)), (.goto (-27), 0, 0, 0, 0)] (pc' := 13) (by decide +kernel) (lv' := [some (.ref 117), some (.int x), some (.int y), some (.int m), some (.int (a + (nI 0))), some (.int ((nI i) + (nI 1)))]) (st' := []) (I' := I) (J' := J) rfl ?_
        rw [show ((nI i) + (nI 1)) = (nI (i + 1)) from by simp (disch := omega) only [nI_add, tq_mul] <;> exact congrArg nI (by omega)]
        rw [tq_its, show (f_ptl1 I x y m q) i a = (a + (nI 0)) from by simp only [f_ptl1, if_neg h1, if_pos h2]] at kk
        exact ih (i + 1) (a + (nI 0)) (by omega) kk
      · skip
        refine EV_blk (own := 12) C rfl [(.iconst 1, 0, 0, 0, (nI 1)), (.goto 4, 0, 0, 0, 0), (.iadd, 0, 0, 0, 0), (.istore 4, 0, 0, 0, 0), (.iinc 5 1, 0, 0, 0, (nI 1)), (.goto (-27), 0, 0, 0, 0)] (pc' := 13) (by decide +kernel) (lv' := [some (.ref 117), some (.int x), some (.int y), some (.int m), some (.int (a + (nI 1))), some (.int ((nI i) + (nI 1)))]) (st' := []) (I' := I) (J' := J) rfl ?_
        rw [show ((nI i) + (nI 1)) = (nI (i + 1)) from by simp (disch := omega) only [nI_add, tq_mul] <;> exact congrArg nI (by omega)]
        rw [tq_its, show (f_ptl1 I x y m q) i a = (a + (nI 1)) from by simp only [f_ptl1, if_neg h1, if_neg h2]] at kk
        exact ih (i + 1) (a + (nI 1)) (by omega) kk
theorem tr_mN (m : Int32) : m.toInt = (tq_N m : Int) ∨ (m.toInt < 0 ∧ tq_N m = 0) := by unfold tq_N; omega
theorem tr_mL (m : Int32) : tq_N m < 2 ^ 31 := by
  have := Int32.toInt_lt m
  unfold tq_N
  omega
def r_X12_pathTileOf (I : tq_I) (x y : Int32) (w h : Nat) : Int32 := (if (r_X12_maskOf I x y w h) = (-1) then (-1) else (tq_it (f_ptl1 I x y (r_X12_maskOf I x y w h) (tq_N (r_X12_maskOf I x y w h))) (tq_N (r_X12_maskOf I x y w h)) 0 (nI 0)))
set_option maxRecDepth 20000 in
theorem c_X12_pathTileOf (g : tq_G) (I : tq_I) (J : Int64) (x y : Int32) (w h : Nat) (k : tr_wh I w h) : CT g mX12_pathTileOf 4 0 0 [.ref 117, .int x, .int y] (tq_SC ++ tq_SR) tq_RR I J (tq_ret (tq_SC ++ tq_SR) tq_RR (some (.int (r_X12_pathTileOf I x y w h))) I J) := by
  refine CT.ret kX12_pathTileOf (Nat.le_of_ble_eq_true rfl) (fun x0 C hR hZ => ?_)
  refine EV_en (lv' := [some (.ref 117), some (.int x), some (.int y), none, none, none]) 3 rfl ?_
  refine EV_blk (own := 12) C rfl [(.aload_n 0, 0, 0, 0, 0), (.iload_n 1, 0, 0, 0, 0), (.iload_n 2, 0, 0, 0, 0)] (pc' := 3) (by decide +kernel) (lv' := [some (.ref 117), some (.int x), some (.int y), none, none, none]) (st' := [.int y, .int x, .ref 117]) (I' := I) (J' := J) rfl ?_
  refine EV_cV (own := 12) (idx := 113) (μ' := mX12_maskOf) (b := 117) (cb := 12) (av := [.int x, .int y]) (rest := []) C hR rfl (Or.inl ⟨1069, by decide⟩) kX12_maskOf sX12_maskOf (c_X12_maskOf g I J x y w h k) rfl rfl (by decide +kernel) rfl (by decide) (Nat.le_of_ble_eq_true rfl) rfl ⟨Nat.zero_le _, Nat.zero_le _⟩ ?_
  refine EV_blk (own := 12) C rfl [(.istore_n 3, 0, 0, 0, 0), (.iconst 0, 0, 0, 0, (nI 0)), (.istore 4, 0, 0, 0, 0), (.iconst 0, 0, 0, 0, (nI 0)), (.istore 5, 0, 0, 0, 0)] (pc' := 13) (by decide +kernel) (lv' := [some (.ref 117), some (.int x), some (.int y), some (.int (r_X12_maskOf I x y w h)), some (.int (nI 0)), some (.int (nI 0))]) (st' := []) (I' := I) (J' := J) rfl ?_
  refine lp_ptl1 C hR I J x y (r_X12_maskOf I x y w h) (tq_N (r_X12_maskOf I x y w h)) (tr_mN _) (tr_mL _) (tq_N (r_X12_maskOf I x y w h)) 0 (nI 0) (by omega) ?_
  refine EV_blk (own := 12) C rfl [(.iload_n 3, 0, 0, 0, 0), (.iconst (-1), 0, 0, 0, (-1))] (pc' := 45) (by decide +kernel) (lv' := [some (.ref 117), some (.int x), some (.int y), some (.int (r_X12_maskOf I x y w h)), some (.int (tq_it (f_ptl1 I x y (r_X12_maskOf I x y w h) (tq_N (r_X12_maskOf I x y w h))) (tq_N (r_X12_maskOf I x y w h)) 0 (nI 0))), some (.int (nI ((0 + (tq_N (r_X12_maskOf I x y w h))))))]) (st' := [.int (-1), .int (r_X12_maskOf I x y w h)]) (I' := I) (J' := J) rfl ?_
  refine EV_icmp_ne (off := 7) (tgt := 52) C (by decide +kernel) (by decide) (fun h1 => ?_) (fun h1 => ?_)
  · skip
    refine EV_blk (own := 12) C rfl [(.iload 4, 0, 0, 0, 0)] (pc' := 54) (by decide +kernel) (lv' := [some (.ref 117), some (.int x), some (.int y), some (.int (r_X12_maskOf I x y w h)), some (.int (tq_it (f_ptl1 I x y (r_X12_maskOf I x y w h) (tq_N (r_X12_maskOf I x y w h))) (tq_N (r_X12_maskOf I x y w h)) 0 (nI 0))), some (.int (nI ((0 + (tq_N (r_X12_maskOf I x y w h))))))]) (st' := [.int (tq_it (f_ptl1 I x y (r_X12_maskOf I x y w h) (tq_N (r_X12_maskOf I x y w h))) (tq_N (r_X12_maskOf I x y w h)) 0 (nI 0))]) (I' := I) (J' := J) rfl ?_
    exact EV_iret C hZ rfl (by decide +kernel) (Nat.le_refl _) (Nat.le_refl _) ⟨tq_some (by simp only [r_X12_pathTileOf, if_neg h1]), rfl, rfl, rfl, rfl⟩
  · skip
    refine EV_blk (own := 12) C rfl [(.iconst (-1), 0, 0, 0, (-1)), (.goto 5, 0, 0, 0, 0)] (pc' := 54) (by decide +kernel) (lv' := [some (.ref 117), some (.int x), some (.int y), some (.int (r_X12_maskOf I x y w h)), some (.int (tq_it (f_ptl1 I x y (r_X12_maskOf I x y w h) (tq_N (r_X12_maskOf I x y w h))) (tq_N (r_X12_maskOf I x y w h)) 0 (nI 0))), some (.int (nI ((0 + (tq_N (r_X12_maskOf I x y w h))))))]) (st' := [.int (-1)]) (I' := I) (J' := J) rfl ?_
    exact EV_iret C hZ rfl (by decide +kernel) (Nat.le_refl _) (Nat.le_refl _) ⟨tq_some (by simp only [r_X12_pathTileOf, if_pos h1]), rfl, rfl, rfl, rfl⟩
def r_X12_pathMask (I : tq_I) (x y : Int32) (w h s : Nat) : Int32 := (if (tq_b (tr_cell I x y)) = 0 then (-2) else (r_X12_maskOf I x y w h))
set_option maxRecDepth 20000 in
theorem c_X12_pathMask (g : tq_G) (I : tq_I) (J : Int64) (x y : Int32) (w h s : Nat) (k : tr_wh I w h) (hs : I 117 1 = nI s) (hs5 : s ≤ 5)  : CT g mX12_pathMask 4 0 0 [.ref 117, .int x, .int y] (tq_SC ++ tq_SR) tq_RR I J (tq_ret (tq_SC ++ tq_SR) tq_RR (some (.int (r_X12_pathMask I x y w h s))) I J) := by
  refine CT.ret kX12_pathMask (Nat.le_of_ble_eq_true rfl) (fun x0 C hR hZ => ?_)
  refine EV_en (lv' := [some (.ref 117), some (.int x), some (.int y)]) 0 rfl ?_
  refine EV_blk (own := 12) C rfl [(.aload_n 0, 0, 0, 0, 0), (.iload_n 1, 0, 0, 0, 0), (.iload_n 2, 0, 0, 0, 0)] (pc' := 3) (by decide +kernel) (lv' := [some (.ref 117), some (.int x), some (.int y)]) (st' := [.int y, .int x, .ref 117]) (I' := I) (J' := J) rfl ?_
  refine EV_cV (own := 12) (idx := 66) (μ' := mX12_isCell) (b := 117) (cb := 12) (av := [.int x, .int y]) (rest := []) C hR rfl (Or.inl ⟨892, by decide⟩) kX12_isCell sX12_isCell (c_X12_isCell g I J x y ) rfl rfl (by decide +kernel) rfl (by decide) (Nat.le_of_ble_eq_true rfl) rfl ⟨Nat.zero_le _, Nat.zero_le _⟩ ?_
  refine EV_if_eq (off := 12) (tgt := 18) C (by decide +kernel) (by decide) (fun h1 => ?_) (fun h1 => ?_)
  · skip
    refine EV_blk (own := 12) C rfl [(.bipush (-2), 0, 0, 0, (-2))] (pc' := 20) (by decide +kernel) (lv' := [some (.ref 117), some (.int x), some (.int y)]) (st' := [.int (-2)]) (I' := I) (J' := J) rfl ?_
    exact EV_iret C hZ rfl (by decide +kernel) (Nat.le_refl _) (Nat.le_refl _) ⟨tq_some (by simp only [r_X12_pathMask, if_pos h1]), rfl, rfl, rfl, rfl⟩
  · skip
    have hc := tq_b10 h1
    have hxy := tr_cell.ix k hc
    have hw10 := k.2.2.2.1
    have hh10 := k.2.2.2.2.2
    refine EV_blk (own := 12) C rfl [(.aload_n 0, 0, 0, 0, 0), (.iload_n 1, 0, 0, 0, 0), (.iload_n 2, 0, 0, 0, 0)] (pc' := 12) (by decide +kernel) (lv' := [some (.ref 117), some (.int x), some (.int y)]) (st' := [.int y, .int x, .ref 117]) (I' := I) (J' := J) rfl ?_
    refine EV_cV (own := 12) (idx := 113) (μ' := mX12_maskOf) (b := 117) (cb := 12) (av := [.int x, .int y]) (rest := []) C hR rfl (Or.inl ⟨1069, by decide⟩) kX12_maskOf sX12_maskOf (c_X12_maskOf g I J x y w h k) rfl rfl (by decide +kernel) rfl (by decide) (Nat.le_of_ble_eq_true rfl) rfl ⟨Nat.zero_le _, Nat.zero_le _⟩ ?_
    refine EV_blk (own := 12) C rfl [(.goto 5, 0, 0, 0, 0)] (pc' := 20) (by decide +kernel) (lv' := [some (.ref 117), some (.int x), some (.int y)]) (st' := [.int (r_X12_maskOf I x y w h)]) (I' := I) (J' := J) rfl ?_
    exact EV_iret C hZ rfl (by decide +kernel) (Nat.le_refl _) (Nat.le_refl _) ⟨tq_some (by simp only [r_X12_pathMask, if_neg h1]), rfl, rfl, rfl, rfl⟩
def r_X12_pathTile (I : tq_I) (x y : Int32) (w h s : Nat) : Int32 := (if (tq_b (tr_cell I x y)) = 0 then (-2) else (r_X12_pathTileOf I x y w h))
set_option maxRecDepth 20000 in
theorem c_X12_pathTile (g : tq_G) (I : tq_I) (J : Int64) (x y : Int32) (w h s : Nat) (k : tr_wh I w h) (hs : I 117 1 = nI s) (hs5 : s ≤ 5)  : CT g mX12_pathTile 5 0 0 [.ref 117, .int x, .int y] (tq_SC ++ tq_SR) tq_RR I J (tq_ret (tq_SC ++ tq_SR) tq_RR (some (.int (r_X12_pathTile I x y w h s))) I J) := by
  refine CT.ret kX12_pathTile (Nat.le_of_ble_eq_true rfl) (fun x0 C hR hZ => ?_)
  refine EV_en (lv' := [some (.ref 117), some (.int x), some (.int y)]) 0 rfl ?_
  refine EV_blk (own := 12) C rfl [(.aload_n 0, 0, 0, 0, 0), (.iload_n 1, 0, 0, 0, 0), (.iload_n 2, 0, 0, 0, 0)] (pc' := 3) (by decide +kernel) (lv' := [some (.ref 117), some (.int x), some (.int y)]) (st' := [.int y, .int x, .ref 117]) (I' := I) (J' := J) rfl ?_
  refine EV_cV (own := 12) (idx := 66) (μ' := mX12_isCell) (b := 117) (cb := 12) (av := [.int x, .int y]) (rest := []) C hR rfl (Or.inl ⟨892, by decide⟩) kX12_isCell sX12_isCell (c_X12_isCell g I J x y ) rfl rfl (by decide +kernel) rfl (by decide) (Nat.le_of_ble_eq_true rfl) rfl ⟨Nat.zero_le _, Nat.zero_le _⟩ ?_
  refine EV_if_eq (off := 12) (tgt := 18) C (by decide +kernel) (by decide) (fun h1 => ?_) (fun h1 => ?_)
  · skip
    refine EV_blk (own := 12) C rfl [(.bipush (-2), 0, 0, 0, (-2))] (pc' := 20) (by decide +kernel) (lv' := [some (.ref 117), some (.int x), some (.int y)]) (st' := [.int (-2)]) (I' := I) (J' := J) rfl ?_
    exact EV_iret C hZ rfl (by decide +kernel) (Nat.le_refl _) (Nat.le_refl _) ⟨tq_some (by simp only [r_X12_pathTile, if_pos h1]), rfl, rfl, rfl, rfl⟩
  · skip
    have hc := tq_b10 h1
    have hxy := tr_cell.ix k hc
    have hw10 := k.2.2.2.1
    have hh10 := k.2.2.2.2.2
    refine EV_blk (own := 12) C rfl [(.aload_n 0, 0, 0, 0, 0), (.iload_n 1, 0, 0, 0, 0), (.iload_n 2, 0, 0, 0, 0)] (pc' := 12) (by decide +kernel) (lv' := [some (.ref 117), some (.int x), some (.int y)]) (st' := [.int y, .int x, .ref 117]) (I' := I) (J' := J) rfl ?_
    refine EV_cV (own := 12) (idx := 119) (μ' := mX12_pathTileOf) (b := 117) (cb := 12) (av := [.int x, .int y]) (rest := []) C hR rfl (Or.inl ⟨1077, by decide⟩) kX12_pathTileOf sX12_pathTileOf (c_X12_pathTileOf g I J x y w h k) rfl rfl (by decide +kernel) rfl (by decide) (Nat.le_of_ble_eq_true rfl) rfl ⟨Nat.zero_le _, Nat.zero_le _⟩ ?_
    refine EV_blk (own := 12) C rfl [(.goto 5, 0, 0, 0, 0)] (pc' := 20) (by decide +kernel) (lv' := [some (.ref 117), some (.int x), some (.int y)]) (st' := [.int (r_X12_pathTileOf I x y w h)]) (I' := I) (J' := J) rfl ?_
    exact EV_iret C hZ rfl (by decide +kernel) (Nat.le_refl _) (Nat.le_refl _) ⟨tq_some (by simp only [r_X12_pathTile, if_neg h1]), rfl, rfl, rfl, rfl⟩
def r_X12_rank (I : tq_I) (t : Int32) (w h s : Nat) : Int32 := (if (tq_b ((nI 0).toInt ≤ t.toInt ∧ t.toInt ≤ (nI 5).toInt)) = 0 then (-2) else (nI (tr_rk I t)))
set_option maxRecDepth 20000 in
theorem c_X12_rank (g : tq_G) (I : tq_I) (J : Int64) (t : Int32) (w h s : Nat) (k : tr_wh I w h) (hs : I 117 1 = nI s) (hs5 : s ≤ 5) (ho : tr_ord I) : CT g mX12_rank 2 0 0 [.ref 117, .int t] (tq_SC ++ tq_SR) tq_RR I J (tq_ret (tq_SC ++ tq_SR) tq_RR (some (.int (r_X12_rank I t w h s))) I J) := by
  refine CT.ret kX12_rank (Nat.le_of_ble_eq_true rfl) (fun x0 C hR hZ => ?_)
  refine EV_en (lv' := [some (.ref 117), some (.int t)]) 0 rfl ?_
  refine EV_blk (own := 12) C rfl [(.iload_n 1, 0, 0, 0, 0)] (pc' := 1) (by decide +kernel) (lv' := [some (.ref 117), some (.int t)]) (st' := [.int t]) (I' := I) (J' := J) rfl ?_
  refine EV_cS (own := 12) (idx := 80) (μ' := mX12_isTerrain) (av := [.int t]) (rest := []) C hR rfl (Or.inl ⟨983, by decide⟩) kX12_isTerrain sX12_isTerrain (c_X12_isTerrain g I J t ) (by decide +kernel) rfl (by decide) (Nat.le_of_ble_eq_true rfl) rfl ⟨Nat.zero_le _, Nat.zero_le _⟩ ?_
  refine EV_if_eq (off := 11) (tgt := 15) C (by decide +kernel) (by decide) (fun h1 => ?_) (fun h1 => ?_)
  · skip
    refine EV_blk (own := 12) C rfl [(.bipush (-2), 0, 0, 0, (-2))] (pc' := 17) (by decide +kernel) (lv' := [some (.ref 117), some (.int t)]) (st' := [.int (-2)]) (I' := I) (J' := J) rfl ?_
    exact EV_iret C hZ rfl (by decide +kernel) (Nat.le_refl _) (Nat.le_refl _) ⟨tq_some (by simp only [r_X12_rank, if_pos h1]), rfl, rfl, rfl, rfl⟩
  · skip
    have ht := tq_t05 (tq_b10 h1)
    refine EV_blk (own := 12) C rfl [(.aload_n 0, 0, 0, 0, 0), (.iload_n 1, 0, 0, 0, 0)] (pc' := 9) (by decide +kernel) (lv' := [some (.ref 117), some (.int t)]) (st' := [.int t, .ref 117]) (I' := I) (J' := J) rfl ?_
    refine EV_cV (own := 12) (idx := 103) (μ' := mX12_rankOf) (b := 117) (cb := 12) (av := [.int t]) (rest := []) C hR rfl (Or.inl ⟨1042, by decide⟩) kX12_rankOf sX12_rankOf (c_rankOf g I J t (ho.has ⟨ht.1, ht.2.1⟩)) rfl rfl (by decide +kernel) rfl (by decide) (Nat.le_of_ble_eq_true rfl) rfl ⟨Nat.zero_le _, Nat.zero_le _⟩ ?_
    refine EV_blk (own := 12) C rfl [(.goto 5, 0, 0, 0, 0)] (pc' := 17) (by decide +kernel) (lv' := [some (.ref 117), some (.int t)]) (st' := [.int (nI (tr_rk I t))]) (I' := I) (J' := J) rfl ?_
    exact EV_iret C hZ rfl (by decide +kernel) (Nat.le_refl _) (Nat.le_refl _) ⟨tq_some (by simp only [r_X12_rank, if_neg h1]), rfl, rfl, rfl, rfl⟩
def f_sr1 (t r f : Nat) (i : Nat) (a : tq_I) : tq_I := (tq_u a 118 (4 + (f + i)) (a 118 ((4 + (f + i)) + 1)))
set_option maxRecDepth 20000 in
theorem lp_sr1 {g : tq_G} {x0 : tq_X} (C : tq_C g mX12_setRank x0) (hR : tq_ht x0 4 0 0) (J : Int64) (t r f : Nat) (hf5 : f ≤ 5) (hr5 : r ≤ 5) : ∀ (n i : Nat) (a : tq_I), i + n = r - f → EV g mX12_setRank x0 0 0 67 [some (.ref 117), some (.int (nI t)), some (.int (nI r)), some (.int (nI f)), some (.int (nI (f + (i + n))))] [] (tq_SC ++ tq_SR) tq_RR (tq_it (f_sr1 t r f) n i a) J → EV g mX12_setRank x0 0 0 35 [some (.ref 117), some (.int (nI t)), some (.int (nI r)), some (.int (nI f)), some (.int (nI (f + i)))] [] (tq_SC ++ tq_SR) tq_RR a J := by
  intro n
  induction n with
  | zero =>
    intro i a hi kk
    rw [Nat.add_zero] at kk
    refine EV_blk (own := 12) C rfl [(.iload 4, 0, 0, 0, 0), (.iload_n 2, 0, 0, 0, 0)] (pc' := 38) (by decide +kernel) (lv' := [some (.ref 117), some (.int (nI t)), some (.int (nI r)), some (.int (nI f)), some (.int (nI (f + i)))]) (st' := [.int (nI r), .int (nI (f + i))]) (I' := a) (J' := J) rfl ?_
    refine EV_icmp_ge (off := 29) (tgt := 67) C (by decide +kernel) (by decide) (fun h1 => ?_) (fun h1 => ?_)
    · skip
      exact kk
    · skip
      exact absurd h1 (by simp (disch := omega) only [Int32.lt_iff_toInt_lt, Int32.le_iff_toInt_le, Int32.toInt_zero, nI_toInt, tq_m1]; omega)
  | succ n ih =>
    intro i a hi kk
    rw [show i + (n + 1) = (i + 1) + n by omega] at kk
    refine EV_blk (own := 12) C rfl [(.iload 4, 0, 0, 0, 0), (.iload_n 2, 0, 0, 0, 0)] (pc' := 38) (by decide +kernel) (lv' := [some (.ref 117), some (.int (nI t)), some (.int (nI r)), some (.int (nI f)), some (.int (nI (f + i)))]) (st' := [.int (nI r), .int (nI (f + i))]) (I' := a) (J' := J) rfl ?_
    refine EV_icmp_ge (off := 29) (tgt := 67) C (by decide +kernel) (by decide) (fun h1 => ?_) (fun h1 => ?_)
    · skip
      exact absurd h1 (by simp (disch := omega) only [Int32.lt_iff_toInt_lt, Int32.le_iff_toInt_le, Int32.toInt_zero, nI_toInt, tq_m1]; omega)
    · skip
      refine EV_blk (own := 12) C rfl [(.aload_n 0, 0, 0, 0, 0), (.getfield 7, 12, 0, 899, 0), (.iconst 4, 0, 0, 0, (nI 4)), (.iload 4, 0, 0, 0, 0), (.iadd, 0, 0, 0, 0), (.aload_n 0, 0, 0, 0, 0), (.getfield 7, 12, 0, 899, 0), (.iconst 4, 0, 0, 0, (nI 4)), (.iload 4, 0, 0, 0, 0), (.iadd, 0, 0, 0, 0), (.iconst 1, 0, 0, 0, (nI 1)), (.iadd, 0, 0, 0, 0)] (pc' := 59) (by decide +kernel) (lv' := [some (.ref 117), some (.int (nI t)), some (.int (nI r)), some (.int (nI f)), some (.int (nI (f + i)))]) (st' := [.int (((nI 4) + (nI (f + i))) + (nI 1)), .ref 118, .int ((nI 4) + (nI (f + i))), .ref 118]) (I' := a) (J' := J) rfl ?_
      refine EV_iald (j := ((4 + (f + i)) + 1)) C (by decide +kernel) rfl (tq_toI ((4 + (f + i)) + 1) (by simp (disch := omega) only [nI_add, tq_mul, tq_rem_nI, tq_div_nI, tq_sub_nI]) (by omega)) (by omega) ?_
      refine EV_iast (j := (4 + (f + i))) C (by decide +kernel) rfl (tq_toI (4 + (f + i)) (by simp (disch := omega) only [nI_add, tq_mul, tq_rem_nI, tq_div_nI, tq_sub_nI]) (by omega)) (by omega) ?_
      refine EV_blk (own := 12) C rfl [(.iinc 4 1, 0, 0, 0, (nI 1)), (.goto (-29), 0, 0, 0, 0)] (pc' := 35) (by decide +kernel) (lv' := [some (.ref 117), some (.int (nI t)), some (.int (nI r)), some (.int (nI f)), some (.int ((nI (f + i)) + (nI 1)))]) (st' := []) (I' := (tq_u a 118 (4 + (f + i)) (a 118 ((4 + (f + i)) + 1)))) (J' := J) rfl ?_
      rw [show ((nI (f + i)) + (nI 1)) = (nI (f + (i + 1))) from by simp (disch := omega) only [nI_add, tq_mul] <;> exact congrArg nI (by omega)]
      rw [tq_its, show (f_sr1 t r f) i a = (tq_u a 118 (4 + (f + i)) (a 118 ((4 + (f + i)) + 1))) from by simp only [f_sr1, if_neg h1]] at kk
      exact ih (i + 1) (tq_u a 118 (4 + (f + i)) (a 118 ((4 + (f + i)) + 1))) (by omega) kk
theorem fr_sr1 (t r f : Nat) {cz : Nat} (hc : cz ≠ 118) (n i : Nat) (a : tq_I) (jz : Nat) : (tq_it (f_sr1 t r f) n i a) cz jz = a cz jz := by
  have hc0 := hc
  refine tq_itF (fun i a j => ?_) n i a jz
  simp only [f_sr1]
  (repeat' split) <;> simp (disch := first | assumption | (simp only [ne_eq] at *; simp [*])) [tq_u, tq_cp, hc0, fr_X12_touches, fr_ta1, fr_X12_touchesAll, fr_cps1, fr_X12_copies, fr_sav, fr_bg1, fr_bg2, fr_X12_begins, fr_ly1, fr_X12_lays, fr_bgn1, fr_X12_begin, fr_X12_setCorner, fr_fi1, fr_X12_fill, fr_fg1, fr_X12_forgets, fr_rc1, fr_rc2, fr_X12_reaches, fr_mfl1, fr_X12_flood, fr_mrg1, fr_X12_regions, fr_mra1, fr_X12_raise, fr_sp1, fr_X12_setPath]
def f_sr2 (t r f : Nat) (i : Nat) (a : tq_I) : tq_I := (tq_u a 118 (4 + (f - i)) (a 118 ((4 + (f - i)) - 1)))
set_option maxRecDepth 20000 in
theorem lp_sr2 {g : tq_G} {x0 : tq_X} (C : tq_C g mX12_setRank x0) (hR : tq_ht x0 4 0 0) (J : Int64) (t r f : Nat) (hf5 : f ≤ 5) (hr5 : r ≤ 5) : ∀ (n i : Nat) (a : tq_I), i + n = f - r → EV g mX12_setRank x0 0 0 102 [some (.ref 117), some (.int (nI t)), some (.int (nI r)), some (.int (nI f)), some (.int (nI (f - (i + n))))] [] (tq_SC ++ tq_SR) tq_RR (tq_it (f_sr2 t r f) n i a) J → EV g mX12_setRank x0 0 0 70 [some (.ref 117), some (.int (nI t)), some (.int (nI r)), some (.int (nI f)), some (.int (nI (f - i)))] [] (tq_SC ++ tq_SR) tq_RR a J := by
  intro n
  induction n with
  | zero =>
    intro i a hi kk
    rw [Nat.add_zero] at kk
    refine EV_blk (own := 12) C rfl [(.iload 4, 0, 0, 0, 0), (.iload_n 2, 0, 0, 0, 0)] (pc' := 73) (by decide +kernel) (lv' := [some (.ref 117), some (.int (nI t)), some (.int (nI r)), some (.int (nI f)), some (.int (nI (f - i)))]) (st' := [.int (nI r), .int (nI (f - i))]) (I' := a) (J' := J) rfl ?_
    refine EV_icmp_le (off := 29) (tgt := 102) C (by decide +kernel) (by decide) (fun h1 => ?_) (fun h1 => ?_)
    · skip
      exact kk
    · skip
      exact absurd h1 (by simp (disch := omega) only [Int32.lt_iff_toInt_lt, Int32.le_iff_toInt_le, Int32.toInt_zero, nI_toInt, tq_m1]; omega)
  | succ n ih =>
    intro i a hi kk
    rw [show i + (n + 1) = (i + 1) + n by omega] at kk
    refine EV_blk (own := 12) C rfl [(.iload 4, 0, 0, 0, 0), (.iload_n 2, 0, 0, 0, 0)] (pc' := 73) (by decide +kernel) (lv' := [some (.ref 117), some (.int (nI t)), some (.int (nI r)), some (.int (nI f)), some (.int (nI (f - i)))]) (st' := [.int (nI r), .int (nI (f - i))]) (I' := a) (J' := J) rfl ?_
    refine EV_icmp_le (off := 29) (tgt := 102) C (by decide +kernel) (by decide) (fun h1 => ?_) (fun h1 => ?_)
    · skip
      exact absurd h1 (by simp (disch := omega) only [Int32.lt_iff_toInt_lt, Int32.le_iff_toInt_le, Int32.toInt_zero, nI_toInt, tq_m1]; omega)
    · skip
      refine EV_blk (own := 12) C rfl [(.aload_n 0, 0, 0, 0, 0), (.getfield 7, 12, 0, 899, 0), (.iconst 4, 0, 0, 0, (nI 4)), (.iload 4, 0, 0, 0, 0), (.iadd, 0, 0, 0, 0), (.aload_n 0, 0, 0, 0, 0), (.getfield 7, 12, 0, 899, 0), (.iconst 4, 0, 0, 0, (nI 4)), (.iload 4, 0, 0, 0, 0), (.iadd, 0, 0, 0, 0), (.iconst 1, 0, 0, 0, (nI 1)), (.isub, 0, 0, 0, 0)] (pc' := 94) (by decide +kernel) (lv' := [some (.ref 117), some (.int (nI t)), some (.int (nI r)), some (.int (nI f)), some (.int (nI (f - i)))]) (st' := [.int (((nI 4) + (nI (f - i))) - (nI 1)), .ref 118, .int ((nI 4) + (nI (f - i))), .ref 118]) (I' := a) (J' := J) rfl ?_
      refine EV_iald (j := ((4 + (f - i)) - 1)) C (by decide +kernel) rfl (tq_toI ((4 + (f - i)) - 1) (by simp (disch := omega) only [nI_add, tq_mul, tq_rem_nI, tq_div_nI, tq_sub_nI]) (by omega)) (by omega) ?_
      refine EV_iast (j := (4 + (f - i))) C (by decide +kernel) rfl (tq_toI (4 + (f - i)) (by simp (disch := omega) only [nI_add, tq_mul, tq_rem_nI, tq_div_nI, tq_sub_nI]) (by omega)) (by omega) ?_
      refine EV_blk (own := 12) C rfl [(.iinc 4 (-1), 0, 0, 0, (-1)), (.goto (-29), 0, 0, 0, 0)] (pc' := 70) (by decide +kernel) (lv' := [some (.ref 117), some (.int (nI t)), some (.int (nI r)), some (.int (nI f)), some (.int ((nI (f - i)) + (-1)))]) (st' := []) (I' := (tq_u a 118 (4 + (f - i)) (a 118 ((4 + (f - i)) - 1)))) (J' := J) rfl ?_
      rw [show ((nI (f - i)) + (-1)) = (nI (f - (i + 1))) from by rw [tq_dn (by omega)] <;> exact congrArg nI (by omega)]
      rw [tq_its, show (f_sr2 t r f) i a = (tq_u a 118 (4 + (f - i)) (a 118 ((4 + (f - i)) - 1))) from by simp only [f_sr2, if_neg h1]] at kk
      exact ih (i + 1) (tq_u a 118 (4 + (f - i)) (a 118 ((4 + (f - i)) - 1))) (by omega) kk
theorem fr_sr2 (t r f : Nat) {cz : Nat} (hc : cz ≠ 118) (n i : Nat) (a : tq_I) (jz : Nat) : (tq_it (f_sr2 t r f) n i a) cz jz = a cz jz := by
  have hc0 := hc
  refine tq_itF (fun i a j => ?_) n i a jz
  simp only [f_sr2]
  (repeat' split) <;> simp (disch := first | assumption | (simp only [ne_eq] at *; simp [*])) [tq_u, tq_cp, hc0, fr_X12_touches, fr_ta1, fr_X12_touchesAll, fr_cps1, fr_X12_copies, fr_sav, fr_bg1, fr_bg2, fr_X12_begins, fr_ly1, fr_X12_lays, fr_bgn1, fr_X12_begin, fr_X12_setCorner, fr_fi1, fr_X12_fill, fr_fg1, fr_X12_forgets, fr_rc1, fr_rc2, fr_X12_reaches, fr_mfl1, fr_X12_flood, fr_mrg1, fr_X12_regions, fr_mra1, fr_X12_raise, fr_sp1, fr_X12_setPath, fr_sr1]
theorem fs_sr1 {I : tq_I} {t r f : Nat} (hf5 : f ≤ 5) (hr5 : r ≤ 5) (n i j : Nat) (hi : i + n ≤ r - f) (hj : j < 4 ∨ 10 ≤ j) : tq_it (f_sr1 t r f) n i I 118 j = I 118 j :=
  tq_itB (fun a => a 118 j = I 118 j) (r - f) (fun i a hi ha => by rw [← ha]; exact tq_u_slot (by omega)) n i I hi rfl
theorem fs_sr2 {I : tq_I} {t r f : Nat} (hf5 : f ≤ 5) (hr5 : r ≤ 5) (n i j : Nat) (hi : i + n ≤ f - r) (hj : j < 4 ∨ 10 ≤ j) : tq_it (f_sr2 t r f) n i I 118 j = I 118 j :=
  tq_itB (fun a => a 118 j = I 118 j) (f - r) (fun i a hi ha => by rw [← ha]; exact tq_u_slot (by omega)) n i I hi rfl
def r_X12_setRank (I : tq_I) (t r : Int32) (w h s : Nat) : Int32 := (if (tq_b ((nI 0).toInt ≤ t.toInt ∧ t.toInt ≤ (nI 5).toInt)) = 0 then (-2) else (if (tq_b ((nI 0).toInt ≤ r.toInt ∧ r.toInt ≤ (nI 5).toInt)) = 0 then (-3) else (if (nI (tr_rk (tr_sav I s) (nI (tq_N t)))) = (nI (tq_N r)) then (nI (tr_rk (tr_sav I s) (nI (tq_N t)))) else (nI (tr_rk (tr_sav I s) (nI (tq_N t)))))))
def I_X12_setRank (I : tq_I) (t r : Int32) (w h s : Nat) : tq_I := (if (tq_b ((nI 0).toInt ≤ t.toInt ∧ t.toInt ≤ (nI 5).toInt)) = 0 then I else (if (tq_b ((nI 0).toInt ≤ r.toInt ∧ r.toInt ≤ (nI 5).toInt)) = 0 then I else (if (nI (tr_rk (tr_sav I s) (nI (tq_N t)))) = (nI (tq_N r)) then (tq_u (tq_it (f_sr2 (tq_N t) (tq_N r) (tr_rk (tr_sav I s) (nI (tq_N t)))) (tr_rk (tr_sav I s) (nI (tq_N t)) - tq_N r) 0 (tq_it (f_sr1 (tq_N t) (tq_N r) (tr_rk (tr_sav I s) (nI (tq_N t)))) (tq_N r - tr_rk (tr_sav I s) (nI (tq_N t))) 0 (tr_sav I s))) 118 (4 + (tq_N r)) (nI (tq_N t))) else (I_X12_touchesAll (tq_u (tq_it (f_sr2 (tq_N t) (tq_N r) (tr_rk (tr_sav I s) (nI (tq_N t)))) (tr_rk (tr_sav I s) (nI (tq_N t)) - tq_N r) 0 (tq_it (f_sr1 (tq_N t) (tq_N r) (tr_rk (tr_sav I s) (nI (tq_N t)))) (tq_N r - tr_rk (tr_sav I s) (nI (tq_N t))) 0 (tr_sav I s))) 118 (4 + (tq_N r)) (nI (tq_N t))) w h))))
set_option maxRecDepth 20000 in
theorem c_X12_setRank (g : tq_G) (I : tq_I) (J : Int64) (t r : Int32) (w h s : Nat) (k : tr_wh I w h) (hs : I 117 1 = nI s) (hs5 : s ≤ 5) (ho : tr_ord I) : CT g mX12_setRank 4 0 0 [.ref 117, .int t, .int r] (tq_SC ++ tq_SR) tq_RR I J (tq_ret (tq_SC ++ tq_SR) tq_RR (some (.int (r_X12_setRank I t r w h s))) (I_X12_setRank I t r w h s) J) := by
  refine CT.ret kX12_setRank (Nat.le_of_ble_eq_true rfl) (fun x0 C hR hZ => ?_)
  refine EV_en (lv' := [some (.ref 117), some (.int t), some (.int r), none, none]) 2 rfl ?_
  refine EV_blk (own := 12) C rfl [(.iload_n 1, 0, 0, 0, 0)] (pc' := 1) (by decide +kernel) (lv' := [some (.ref 117), some (.int t), some (.int r), none, none]) (st' := [.int t]) (I' := I) (J' := J) rfl ?_
  refine EV_cS (own := 12) (idx := 80) (μ' := mX12_isTerrain) (av := [.int t]) (rest := []) C hR rfl (Or.inl ⟨983, by decide⟩) kX12_isTerrain sX12_isTerrain (c_X12_isTerrain g I J t ) (by decide +kernel) rfl (by decide) (Nat.le_of_ble_eq_true rfl) rfl ⟨Nat.zero_le _, Nat.zero_le _⟩ ?_
  refine EV_if_ne (off := 6) (tgt := 10) C (by decide +kernel) (by decide) (fun h1 => ?_) (fun h1 => ?_)
  · skip
    have ht := tq_t05 (tq_b10 h1)
    refine EV_blk (own := 12) C rfl [(.iload_n 2, 0, 0, 0, 0), (.iconst 0, 0, 0, 0, (nI 0)), (.iconst 5, 0, 0, 0, (nI 5))] (pc' := 13) (by decide +kernel) (lv' := [some (.ref 117), some (.int t), some (.int r), none, none]) (st' := [.int (nI 5), .int (nI 0), .int r]) (I' := I) (J' := J) rfl ?_
    refine EV_cS (own := 12) (idx := 62) (μ' := mX12_in) (av := [.int r, .int (nI 0), .int (nI 5)]) (rest := []) C hR rfl (Or.inl ⟨896, by decide⟩) kX12_in sX12_in (c_X12_in g I J r (nI 0) (nI 5) ) (by decide +kernel) rfl (by decide) (Nat.le_of_ble_eq_true rfl) rfl ⟨Nat.zero_le _, Nat.zero_le _⟩ ?_
    refine EV_if_ne (off := 6) (tgt := 22) C (by decide +kernel) (by decide) (fun h2 => ?_) (fun h2 => ?_)
    · skip
      have hr := tq_t05 (tq_b10 h2)
      refine EV_lve (lv' := [some (.ref 117), some (.int (nI (tq_N t))), some (.int (nI (tq_N r))), none, none]) (by rw [← tq_nIN ht.1, ← tq_nIN hr.1]) ?_
      refine EV_blk (own := 12) C rfl [(.aload_n 0, 0, 0, 0, 0)] (pc' := 23) (by decide +kernel) (lv' := [some (.ref 117), some (.int (nI (tq_N t))), some (.int (nI (tq_N r))), none, none]) (st' := [.ref 117]) (I' := I) (J' := J) rfl ?_
      refine EV_cV (own := 12) (idx := 84) (μ' := mX12_saves) (b := 117) (cb := 12) (av := []) (rest := []) C hR rfl (Or.inl ⟨986, by decide⟩) kX12_saves sX12_saves (c_saves g I J s hs hs5) rfl rfl (by decide +kernel) rfl (by decide) (Nat.le_of_ble_eq_true rfl) rfl ⟨Nat.zero_le _, Nat.zero_le _⟩ ?_
      refine EV_blk (own := 12) C rfl [(.aload_n 0, 0, 0, 0, 0), (.iload_n 1, 0, 0, 0, 0)] (pc' := 28) (by decide +kernel) (lv' := [some (.ref 117), some (.int (nI (tq_N t))), some (.int (nI (tq_N r))), none, none]) (st' := [.int (nI (tq_N t)), .ref 117]) (I' := (tr_sav I s)) (J' := J) rfl ?_
      refine EV_cV (own := 12) (idx := 103) (μ' := mX12_rankOf) (b := 117) (cb := 12) (av := [.int (nI (tq_N t))]) (rest := []) C hR rfl (Or.inl ⟨1042, by decide⟩) kX12_rankOf sX12_rankOf (c_rankOf g (tr_sav I s) J (nI (tq_N t)) (ho.sav.1 (tq_N t) (by omega))) rfl rfl (by decide +kernel) rfl (by decide) (Nat.le_of_ble_eq_true rfl) rfl ⟨Nat.zero_le _, Nat.zero_le _⟩ ?_
      refine EV_blk (own := 12) C rfl [(.istore_n 3, 0, 0, 0, 0), (.iload_n 3, 0, 0, 0, 0), (.istore 4, 0, 0, 0, 0)] (pc' := 35) (by decide +kernel) (lv' := [some (.ref 117), some (.int (nI (tq_N t))), some (.int (nI (tq_N r))), some (.int (nI (tr_rk (tr_sav I s) (nI (tq_N t))))), some (.int (nI (tr_rk (tr_sav I s) (nI (tq_N t)))))]) (st' := []) (I' := (tr_sav I s)) (J' := J) rfl ?_
      refine lp_sr1 C hR J (tq_N t) (tq_N r) (tr_rk (tr_sav I s) (nI (tq_N t))) (tr_rk5 _ _) (by omega) (tq_N r - tr_rk (tr_sav I s) (nI (tq_N t))) 0 (tr_sav I s) (by omega) ?_
      refine EV_blk (own := 12) C rfl [(.iload_n 3, 0, 0, 0, 0), (.istore 4, 0, 0, 0, 0)] (pc' := 70) (by decide +kernel) (lv' := [some (.ref 117), some (.int (nI (tq_N t))), some (.int (nI (tq_N r))), some (.int (nI (tr_rk (tr_sav I s) (nI (tq_N t))))), some (.int (nI (tr_rk (tr_sav I s) (nI (tq_N t)))))]) (st' := []) (I' := (tq_it (f_sr1 (tq_N t) (tq_N r) (tr_rk (tr_sav I s) (nI (tq_N t)))) (tq_N r - tr_rk (tr_sav I s) (nI (tq_N t))) 0 (tr_sav I s))) (J' := J) rfl ?_
      refine lp_sr2 C hR J (tq_N t) (tq_N r) (tr_rk (tr_sav I s) (nI (tq_N t))) (tr_rk5 _ _) (by omega) (tr_rk (tr_sav I s) (nI (tq_N t)) - tq_N r) 0 (tq_it (f_sr1 (tq_N t) (tq_N r) (tr_rk (tr_sav I s) (nI (tq_N t)))) (tq_N r - tr_rk (tr_sav I s) (nI (tq_N t))) 0 (tr_sav I s)) (by omega) ?_
      refine EV_blk (own := 12) C rfl [(.aload_n 0, 0, 0, 0, 0), (.getfield 7, 12, 0, 899, 0), (.iconst 4, 0, 0, 0, (nI 4)), (.iload_n 2, 0, 0, 0, 0), (.iadd, 0, 0, 0, 0), (.iload_n 1, 0, 0, 0, 0)] (pc' := 110) (by decide +kernel) (lv' := [some (.ref 117), some (.int (nI (tq_N t))), some (.int (nI (tq_N r))), some (.int (nI (tr_rk (tr_sav I s) (nI (tq_N t))))), some (.int (nI ((tr_rk (tr_sav I s) (nI (tq_N t))) - (0 + (tr_rk (tr_sav I s) (nI (tq_N t)) - tq_N r)))))]) (st' := [.int (nI (tq_N t)), .int ((nI 4) + (nI (tq_N r))), .ref 118]) (I' := (tq_it (f_sr2 (tq_N t) (tq_N r) (tr_rk (tr_sav I s) (nI (tq_N t)))) (tr_rk (tr_sav I s) (nI (tq_N t)) - tq_N r) 0 (tq_it (f_sr1 (tq_N t) (tq_N r) (tr_rk (tr_sav I s) (nI (tq_N t)))) (tq_N r - tr_rk (tr_sav I s) (nI (tq_N t))) 0 (tr_sav I s)))) (J' := J) rfl ?_
      refine EV_iast (j := (4 + (tq_N r))) C (by decide +kernel) rfl (tq_toI (4 + (tq_N r)) (by simp (disch := omega) only [nI_add, tq_mul, tq_rem_nI, tq_div_nI, tq_sub_nI]) (by omega)) (by omega) ?_
      refine EV_blk (own := 12) C rfl [(.iload_n 3, 0, 0, 0, 0), (.iload_n 2, 0, 0, 0, 0)] (pc' := 113) (by decide +kernel) (lv' := [some (.ref 117), some (.int (nI (tq_N t))), some (.int (nI (tq_N r))), some (.int (nI (tr_rk (tr_sav I s) (nI (tq_N t))))), some (.int (nI ((tr_rk (tr_sav I s) (nI (tq_N t))) - (0 + (tr_rk (tr_sav I s) (nI (tq_N t)) - tq_N r)))))]) (st' := [.int (nI (tq_N r)), .int (nI (tr_rk (tr_sav I s) (nI (tq_N t))))]) (I' := (tq_u (tq_it (f_sr2 (tq_N t) (tq_N r) (tr_rk (tr_sav I s) (nI (tq_N t)))) (tr_rk (tr_sav I s) (nI (tq_N t)) - tq_N r) 0 (tq_it (f_sr1 (tq_N t) (tq_N r) (tr_rk (tr_sav I s) (nI (tq_N t)))) (tq_N r - tr_rk (tr_sav I s) (nI (tq_N t))) 0 (tr_sav I s))) 118 (4 + (tq_N r)) (nI (tq_N t)))) (J' := J) rfl ?_
      refine EV_icmp_eq (off := 7) (tgt := 120) C (by decide +kernel) (by decide) (fun h3 => ?_) (fun h3 => ?_)
      · skip
        refine EV_blk (own := 12) C rfl [(.iload_n 3, 0, 0, 0, 0)] (pc' := 121) (by decide +kernel) (lv' := [some (.ref 117), some (.int (nI (tq_N t))), some (.int (nI (tq_N r))), some (.int (nI (tr_rk (tr_sav I s) (nI (tq_N t))))), some (.int (nI ((tr_rk (tr_sav I s) (nI (tq_N t))) - (0 + (tr_rk (tr_sav I s) (nI (tq_N t)) - tq_N r)))))]) (st' := [.int (nI (tr_rk (tr_sav I s) (nI (tq_N t))))]) (I' := (tq_u (tq_it (f_sr2 (tq_N t) (tq_N r) (tr_rk (tr_sav I s) (nI (tq_N t)))) (tr_rk (tr_sav I s) (nI (tq_N t)) - tq_N r) 0 (tq_it (f_sr1 (tq_N t) (tq_N r) (tr_rk (tr_sav I s) (nI (tq_N t)))) (tq_N r - tr_rk (tr_sav I s) (nI (tq_N t))) 0 (tr_sav I s))) 118 (4 + (tq_N r)) (nI (tq_N t)))) (J' := J) rfl ?_
        exact EV_iret C hZ rfl (by decide +kernel) (Nat.le_refl _) (Nat.le_refl _) ⟨tq_some (by simp only [r_X12_setRank, if_neg h1, if_neg h2, if_pos h3]), rfl, rfl, by simp only [I_X12_setRank, if_neg h1, if_neg h2, if_pos h3], rfl⟩
      · skip
        refine EV_blk (own := 12) C rfl [(.aload_n 0, 0, 0, 0, 0)] (pc' := 117) (by decide +kernel) (lv' := [some (.ref 117), some (.int (nI (tq_N t))), some (.int (nI (tq_N r))), some (.int (nI (tr_rk (tr_sav I s) (nI (tq_N t))))), some (.int (nI ((tr_rk (tr_sav I s) (nI (tq_N t))) - (0 + (tr_rk (tr_sav I s) (nI (tq_N t)) - tq_N r)))))]) (st' := [.ref 117]) (I' := (tq_u (tq_it (f_sr2 (tq_N t) (tq_N r) (tr_rk (tr_sav I s) (nI (tq_N t)))) (tr_rk (tr_sav I s) (nI (tq_N t)) - tq_N r) 0 (tq_it (f_sr1 (tq_N t) (tq_N r) (tr_rk (tr_sav I s) (nI (tq_N t)))) (tq_N r - tr_rk (tr_sav I s) (nI (tq_N t))) 0 (tr_sav I s))) 118 (4 + (tq_N r)) (nI (tq_N t)))) (J' := J) rfl ?_
        refine EV_cV (own := 12) (idx := 73) (μ' := mX12_touchesAll) (b := 117) (cb := 12) (av := []) (rest := []) C hR rfl (Or.inl ⟨884, by decide⟩) kX12_touchesAll sX12_touchesAll (c_X12_touchesAll g (tq_u (tq_it (f_sr2 (tq_N t) (tq_N r) (tr_rk (tr_sav I s) (nI (tq_N t)))) (tr_rk (tr_sav I s) (nI (tq_N t)) - tq_N r) 0 (tq_it (f_sr1 (tq_N t) (tq_N r) (tr_rk (tr_sav I s) (nI (tq_N t)))) (tq_N r - tr_rk (tr_sav I s) (nI (tq_N t))) 0 (tr_sav I s))) 118 (4 + (tq_N r)) (nI (tq_N t))) J w h (k.sav.cong (by rw [tq_u_slot (by omega), fs_sr2 (tr_rk5 _ _) (by omega) _ _ _ (by omega) (by decide), fs_sr1 (tr_rk5 _ _) (by omega) _ _ _ (by omega) (by decide)]) (by rw [tq_u_slot (by omega), fs_sr2 (tr_rk5 _ _) (by omega) _ _ _ (by omega) (by decide), fs_sr1 (tr_rk5 _ _) (by omega) _ _ _ (by omega) (by decide)]))) rfl rfl (by decide +kernel) rfl (by decide) (Nat.le_of_ble_eq_true rfl) rfl ⟨Nat.zero_le _, Nat.zero_le _⟩ ?_
        refine EV_blk (own := 12) C rfl [(.iload_n 3, 0, 0, 0, 0)] (pc' := 121) (by decide +kernel) (lv' := [some (.ref 117), some (.int (nI (tq_N t))), some (.int (nI (tq_N r))), some (.int (nI (tr_rk (tr_sav I s) (nI (tq_N t))))), some (.int (nI ((tr_rk (tr_sav I s) (nI (tq_N t))) - (0 + (tr_rk (tr_sav I s) (nI (tq_N t)) - tq_N r)))))]) (st' := [.int (nI (tr_rk (tr_sav I s) (nI (tq_N t))))]) (I' := (I_X12_touchesAll (tq_u (tq_it (f_sr2 (tq_N t) (tq_N r) (tr_rk (tr_sav I s) (nI (tq_N t)))) (tr_rk (tr_sav I s) (nI (tq_N t)) - tq_N r) 0 (tq_it (f_sr1 (tq_N t) (tq_N r) (tr_rk (tr_sav I s) (nI (tq_N t)))) (tq_N r - tr_rk (tr_sav I s) (nI (tq_N t))) 0 (tr_sav I s))) 118 (4 + (tq_N r)) (nI (tq_N t))) w h)) (J' := J) rfl ?_
        exact EV_iret C hZ rfl (by decide +kernel) (Nat.le_refl _) (Nat.le_refl _) ⟨tq_some (by simp only [r_X12_setRank, if_neg h1, if_neg h2, if_neg h3]), rfl, rfl, by simp only [I_X12_setRank, if_neg h1, if_neg h2, if_neg h3], rfl⟩
    · skip
      refine EV_blk (own := 12) C rfl [(.bipush (-3), 0, 0, 0, (-3))] (pc' := 21) (by decide +kernel) (lv' := [some (.ref 117), some (.int t), some (.int r), none, none]) (st' := [.int (-3)]) (I' := I) (J' := J) rfl ?_
      exact EV_iret C hZ rfl (by decide +kernel) (Nat.le_refl _) (Nat.le_refl _) ⟨tq_some (by simp only [r_X12_setRank, if_neg h1, if_pos h2]), rfl, rfl, by simp only [I_X12_setRank, if_neg h1, if_pos h2], rfl⟩
  · skip
    refine EV_blk (own := 12) C rfl [(.bipush (-2), 0, 0, 0, (-2))] (pc' := 9) (by decide +kernel) (lv' := [some (.ref 117), some (.int t), some (.int r), none, none]) (st' := [.int (-2)]) (I' := I) (J' := J) rfl ?_
    exact EV_iret C hZ rfl (by decide +kernel) (Nat.le_refl _) (Nat.le_refl _) ⟨tq_some (by simp only [r_X12_setRank, if_pos h1]), rfl, rfl, by simp only [I_X12_setRank, if_pos h1], rfl⟩
theorem fr_X12_setRank (I : tq_I) (t r : Int32) (w h s : Nat) {cz : Nat} (hc : cz ≠ 117 ∧ cz ≠ 118) (jz : Nat) : I_X12_setRank I t r w h s cz jz = I cz jz := by
  obtain ⟨hc0, hc1⟩ := hc
  simp only [I_X12_setRank]
  (repeat' split) <;> simp (disch := first | assumption | (simp only [ne_eq] at *; simp [*])) [tq_u, tq_cp, hc0, hc1, fr_X12_touches, fr_ta1, fr_X12_touchesAll, fr_cps1, fr_X12_copies, fr_sav, fr_bg1, fr_bg2, fr_X12_begins, fr_ly1, fr_X12_lays, fr_bgn1, fr_X12_begin, fr_X12_setCorner, fr_fi1, fr_X12_fill, fr_fg1, fr_X12_forgets, fr_rc1, fr_rc2, fr_X12_reaches, fr_mfl1, fr_X12_flood, fr_mrg1, fr_X12_regions, fr_mra1, fr_X12_raise, fr_sp1, fr_X12_setPath, fr_sr1, fr_sr2]
def r_X12_becomes (I : tq_I) (j : Nat) (v : Int32) (w h s : Nat) : Int32 := (if ((tr_sav I s) 118 j) = v then ((tr_sav I s) 118 j) else ((tr_sav I s) 118 j))
def I_X12_becomes (I : tq_I) (j : Nat) (v : Int32) (w h s : Nat) : tq_I := (if ((tr_sav I s) 118 j) = v then (tq_u (tr_sav I s) 118 j v) else (I_X12_touchesAll (tq_u (tr_sav I s) 118 j v) w h))
set_option maxRecDepth 20000 in
theorem c_X12_becomes (g : tq_G) (I : tq_I) (J : Int64) (j : Nat) (v : Int32) (w h s : Nat) (k : tr_wh I w h) (hs : I 117 1 = nI s) (hs5 : s ≤ 5) (hj : 2 ≤ j ∧ j < 22) : CT g mX12_becomes 4 0 0 [.ref 117, .int (nI j), .int v] (tq_SC ++ tq_SR) tq_RR I J (tq_ret (tq_SC ++ tq_SR) tq_RR (some (.int (r_X12_becomes I j v w h s))) (I_X12_becomes I j v w h s) J) := by
  refine CT.ret kX12_becomes (Nat.le_of_ble_eq_true rfl) (fun x0 C hR hZ => ?_)
  refine EV_en (lv' := [some (.ref 117), some (.int (nI j)), some (.int v), none]) 1 rfl ?_
  refine EV_blk (own := 12) C rfl [(.aload_n 0, 0, 0, 0, 0)] (pc' := 1) (by decide +kernel) (lv' := [some (.ref 117), some (.int (nI j)), some (.int v), none]) (st' := [.ref 117]) (I' := I) (J' := J) rfl ?_
  refine EV_cV (own := 12) (idx := 84) (μ' := mX12_saves) (b := 117) (cb := 12) (av := []) (rest := []) C hR rfl (Or.inl ⟨986, by decide⟩) kX12_saves sX12_saves (c_saves g I J s hs hs5) rfl rfl (by decide +kernel) rfl (by decide) (Nat.le_of_ble_eq_true rfl) rfl ⟨Nat.zero_le _, Nat.zero_le _⟩ ?_
  refine EV_blk (own := 12) C rfl [(.aload_n 0, 0, 0, 0, 0), (.getfield 7, 12, 0, 899, 0), (.iload_n 1, 0, 0, 0, 0)] (pc' := 9) (by decide +kernel) (lv' := [some (.ref 117), some (.int (nI j)), some (.int v), none]) (st' := [.int (nI j), .ref 118]) (I' := (tr_sav I s)) (J' := J) rfl ?_
  refine EV_iald (j := j) C (by decide +kernel) rfl (nI_toInt (by omega)) (by omega) ?_
  refine EV_blk (own := 12) C rfl [(.istore_n 3, 0, 0, 0, 0), (.aload_n 0, 0, 0, 0, 0), (.getfield 7, 12, 0, 899, 0), (.iload_n 1, 0, 0, 0, 0), (.iload_n 2, 0, 0, 0, 0)] (pc' := 17) (by decide +kernel) (lv' := [some (.ref 117), some (.int (nI j)), some (.int v), some (.int ((tr_sav I s) 118 j))]) (st' := [.int v, .int (nI j), .ref 118]) (I' := (tr_sav I s)) (J' := J) rfl ?_
  refine EV_iast (j := j) C (by decide +kernel) rfl (nI_toInt (by omega)) (by omega) ?_
  refine EV_blk (own := 12) C rfl [(.iload_n 3, 0, 0, 0, 0), (.iload_n 2, 0, 0, 0, 0)] (pc' := 20) (by decide +kernel) (lv' := [some (.ref 117), some (.int (nI j)), some (.int v), some (.int ((tr_sav I s) 118 j))]) (st' := [.int v, .int ((tr_sav I s) 118 j)]) (I' := (tq_u (tr_sav I s) 118 j v)) (J' := J) rfl ?_
  refine EV_icmp_eq (off := 7) (tgt := 27) C (by decide +kernel) (by decide) (fun h1 => ?_) (fun h1 => ?_)
  · skip
    refine EV_blk (own := 12) C rfl [(.iload_n 3, 0, 0, 0, 0)] (pc' := 28) (by decide +kernel) (lv' := [some (.ref 117), some (.int (nI j)), some (.int v), some (.int ((tr_sav I s) 118 j))]) (st' := [.int ((tr_sav I s) 118 j)]) (I' := (tq_u (tr_sav I s) 118 j v)) (J' := J) rfl ?_
    exact EV_iret C hZ rfl (by decide +kernel) (Nat.le_refl _) (Nat.le_refl _) ⟨tq_some (by simp only [r_X12_becomes, if_pos h1]), rfl, rfl, by simp only [I_X12_becomes, if_pos h1], rfl⟩
  · skip
    refine EV_blk (own := 12) C rfl [(.aload_n 0, 0, 0, 0, 0)] (pc' := 24) (by decide +kernel) (lv' := [some (.ref 117), some (.int (nI j)), some (.int v), some (.int ((tr_sav I s) 118 j))]) (st' := [.ref 117]) (I' := (tq_u (tr_sav I s) 118 j v)) (J' := J) rfl ?_
    refine EV_cV (own := 12) (idx := 73) (μ' := mX12_touchesAll) (b := 117) (cb := 12) (av := []) (rest := []) C hR rfl (Or.inl ⟨884, by decide⟩) kX12_touchesAll sX12_touchesAll (c_X12_touchesAll g (tq_u (tr_sav I s) 118 j v) J w h (k.sav.cong (tq_u_slot (by omega)) (tq_u_slot (by omega)))) rfl rfl (by decide +kernel) rfl (by decide) (Nat.le_of_ble_eq_true rfl) rfl ⟨Nat.zero_le _, Nat.zero_le _⟩ ?_
    refine EV_blk (own := 12) C rfl [(.iload_n 3, 0, 0, 0, 0)] (pc' := 28) (by decide +kernel) (lv' := [some (.ref 117), some (.int (nI j)), some (.int v), some (.int ((tr_sav I s) 118 j))]) (st' := [.int ((tr_sav I s) 118 j)]) (I' := (I_X12_touchesAll (tq_u (tr_sav I s) 118 j v) w h)) (J' := J) rfl ?_
    exact EV_iret C hZ rfl (by decide +kernel) (Nat.le_refl _) (Nat.le_refl _) ⟨tq_some (by simp only [r_X12_becomes, if_neg h1]), rfl, rfl, by simp only [I_X12_becomes, if_neg h1], rfl⟩
theorem fr_X12_becomes (I : tq_I) (j : Nat) (v : Int32) (w h s : Nat) {cz : Nat} (hc : cz ≠ 117 ∧ cz ≠ 118) (jz : Nat) : I_X12_becomes I j v w h s cz jz = I cz jz := by
  obtain ⟨hc0, hc1⟩ := hc
  simp only [I_X12_becomes]
  (repeat' split) <;> simp (disch := first | assumption | (simp only [ne_eq] at *; simp [*])) [tq_u, tq_cp, hc0, hc1, fr_X12_touches, fr_ta1, fr_X12_touchesAll, fr_cps1, fr_X12_copies, fr_sav, fr_bg1, fr_bg2, fr_X12_begins, fr_ly1, fr_X12_lays, fr_bgn1, fr_X12_begin, fr_X12_setCorner, fr_fi1, fr_X12_fill, fr_fg1, fr_X12_forgets, fr_rc1, fr_rc2, fr_X12_reaches, fr_mfl1, fr_X12_flood, fr_mrg1, fr_X12_regions, fr_mra1, fr_X12_raise, fr_sp1, fr_X12_setPath, fr_sr1, fr_sr2, fr_X12_setRank]
def r_X12_setTiles (I : tq_I) (t q : Int32) (w h s : Nat) : Int32 := (if (tq_b ((nI 0).toInt ≤ t.toInt ∧ t.toInt ≤ (nI 5).toInt)) = 0 then (-2) else (if (tq_b ((nI 0).toInt ≤ q.toInt ∧ q.toInt ≤ (nI 65535).toInt)) = 0 then (-3) else (r_X12_becomes I (10 + (tq_N t)) ((q &&& (nI 65534)) ||| (nI 32768)) w h s)))
def I_X12_setTiles (I : tq_I) (t q : Int32) (w h s : Nat) : tq_I := (if (tq_b ((nI 0).toInt ≤ t.toInt ∧ t.toInt ≤ (nI 5).toInt)) = 0 then I else (if (tq_b ((nI 0).toInt ≤ q.toInt ∧ q.toInt ≤ (nI 65535).toInt)) = 0 then I else (I_X12_becomes I (10 + (tq_N t)) ((q &&& (nI 65534)) ||| (nI 32768)) w h s)))
set_option maxRecDepth 20000 in
theorem c_X12_setTiles (g : tq_G) (I : tq_I) (J : Int64) (t q : Int32) (w h s : Nat) (k : tr_wh I w h) (hs : I 117 1 = nI s) (hs5 : s ≤ 5)  : CT g mX12_setTiles 5 0 0 [.ref 117, .int t, .int q] (tq_SC ++ tq_SR) tq_RR I J (tq_ret (tq_SC ++ tq_SR) tq_RR (some (.int (r_X12_setTiles I t q w h s))) (I_X12_setTiles I t q w h s) J) := by
  refine CT.ret kX12_setTiles (Nat.le_of_ble_eq_true rfl) (fun x0 C hR hZ => ?_)
  refine EV_en (lv' := [some (.ref 117), some (.int t), some (.int q)]) 0 rfl ?_
  refine EV_blk (own := 12) C rfl [(.iload_n 1, 0, 0, 0, 0)] (pc' := 1) (by decide +kernel) (lv' := [some (.ref 117), some (.int t), some (.int q)]) (st' := [.int t]) (I' := I) (J' := J) rfl ?_
  refine EV_cS (own := 12) (idx := 80) (μ' := mX12_isTerrain) (av := [.int t]) (rest := []) C hR rfl (Or.inl ⟨983, by decide⟩) kX12_isTerrain sX12_isTerrain (c_X12_isTerrain g I J t ) (by decide +kernel) rfl (by decide) (Nat.le_of_ble_eq_true rfl) rfl ⟨Nat.zero_le _, Nat.zero_le _⟩ ?_
  refine EV_if_ne (off := 6) (tgt := 10) C (by decide +kernel) (by decide) (fun h1 => ?_) (fun h1 => ?_)
  · skip
    have ht := tq_t05 (tq_b10 h1)
    refine EV_lve (lv' := [some (.ref 117), some (.int (nI (tq_N t))), some (.int q)]) (by rw [← tq_nIN ht.1]) ?_
    refine EV_blk (own := 12) C rfl [(.iload_n 2, 0, 0, 0, 0), (.iconst 0, 0, 0, 0, (nI 0)), (.ldc 122, 0, 0, 1096, (nI 65535))] (pc' := 14) (by decide +kernel) (lv' := [some (.ref 117), some (.int (nI (tq_N t))), some (.int q)]) (st' := [.int (nI 65535), .int (nI 0), .int q]) (I' := I) (J' := J) rfl ?_
    refine EV_cS (own := 12) (idx := 62) (μ' := mX12_in) (av := [.int q, .int (nI 0), .int (nI 65535)]) (rest := []) C hR rfl (Or.inl ⟨896, by decide⟩) kX12_in sX12_in (c_X12_in g I J q (nI 0) (nI 65535) ) (by decide +kernel) rfl (by decide) (Nat.le_of_ble_eq_true rfl) rfl ⟨Nat.zero_le _, Nat.zero_le _⟩ ?_
    refine EV_if_eq (off := 21) (tgt := 38) C (by decide +kernel) (by decide) (fun h2 => ?_) (fun h2 => ?_)
    · skip
      refine EV_blk (own := 12) C rfl [(.bipush (-3), 0, 0, 0, (-3))] (pc' := 40) (by decide +kernel) (lv' := [some (.ref 117), some (.int (nI (tq_N t))), some (.int q)]) (st' := [.int (-3)]) (I' := I) (J' := J) rfl ?_
      exact EV_iret C hZ rfl (by decide +kernel) (Nat.le_refl _) (Nat.le_refl _) ⟨tq_some (by simp only [r_X12_setTiles, if_neg h1, if_pos h2]), rfl, rfl, by simp only [I_X12_setTiles, if_neg h1, if_pos h2], rfl⟩
    · skip
      refine EV_blk (own := 12) C rfl [(.aload_n 0, 0, 0, 0, 0), (.bipush 10, 0, 0, 0, (nI 10)), (.iload_n 1, 0, 0, 0, 0), (.iadd, 0, 0, 0, 0), (.iload_n 2, 0, 0, 0, 0), (.ldc 50, 0, 0, 879, (nI 65534)), (.iand, 0, 0, 0, 0), (.ldc 123, 0, 0, 1097, (nI 32768)), (.ior, 0, 0, 0, 0)] (pc' := 32) (by decide +kernel) (lv' := [some (.ref 117), some (.int (nI (tq_N t))), some (.int q)]) (st' := [.int ((q &&& (nI 65534)) ||| (nI 32768)), .int ((nI 10) + (nI (tq_N t))), .ref 117]) (I' := I) (J' := J) rfl ?_
      rw [show ((nI 10) + (nI (tq_N t))) = (nI (10 + (tq_N t))) from by simp (disch := omega) only [nI_add, tq_mul, tq_rem_nI, tq_div_nI, tq_sub_nI]]
      refine EV_cV (own := 12) (idx := 124) (μ' := mX12_becomes) (b := 117) (cb := 12) (av := [.int (nI (10 + (tq_N t))), .int ((q &&& (nI 65534)) ||| (nI 32768))]) (rest := []) C hR rfl (Or.inl ⟨1098, by decide⟩) kX12_becomes sX12_becomes (c_X12_becomes g I J (10 + (tq_N t)) ((q &&& (nI 65534)) ||| (nI 32768)) w h s k hs hs5 (by omega)) rfl rfl (by decide +kernel) rfl (by decide) (Nat.le_of_ble_eq_true rfl) rfl ⟨Nat.zero_le _, Nat.zero_le _⟩ ?_
      refine EV_blk (own := 12) C rfl [(.goto 5, 0, 0, 0, 0)] (pc' := 40) (by decide +kernel) (lv' := [some (.ref 117), some (.int (nI (tq_N t))), some (.int q)]) (st' := [.int (r_X12_becomes I (10 + (tq_N t)) ((q &&& (nI 65534)) ||| (nI 32768)) w h s)]) (I' := (I_X12_becomes I (10 + (tq_N t)) ((q &&& (nI 65534)) ||| (nI 32768)) w h s)) (J' := J) rfl ?_
      exact EV_iret C hZ rfl (by decide +kernel) (Nat.le_refl _) (Nat.le_refl _) ⟨tq_some (by simp only [r_X12_setTiles, if_neg h1, if_neg h2]), rfl, rfl, by simp only [I_X12_setTiles, if_neg h1, if_neg h2], rfl⟩
  · skip
    refine EV_blk (own := 12) C rfl [(.bipush (-2), 0, 0, 0, (-2))] (pc' := 9) (by decide +kernel) (lv' := [some (.ref 117), some (.int t), some (.int q)]) (st' := [.int (-2)]) (I' := I) (J' := J) rfl ?_
    exact EV_iret C hZ rfl (by decide +kernel) (Nat.le_refl _) (Nat.le_refl _) ⟨tq_some (by simp only [r_X12_setTiles, if_pos h1]), rfl, rfl, by simp only [I_X12_setTiles, if_pos h1], rfl⟩
theorem fr_X12_setTiles (I : tq_I) (t q : Int32) (w h s : Nat) {cz : Nat} (hc : cz ≠ 117 ∧ cz ≠ 118) (jz : Nat) : I_X12_setTiles I t q w h s cz jz = I cz jz := by
  obtain ⟨hc0, hc1⟩ := hc
  simp only [I_X12_setTiles]
  (repeat' split) <;> simp (disch := first | assumption | (simp only [ne_eq] at *; simp [*])) [tq_u, tq_cp, hc0, hc1, fr_X12_touches, fr_ta1, fr_X12_touchesAll, fr_cps1, fr_X12_copies, fr_sav, fr_bg1, fr_bg2, fr_X12_begins, fr_ly1, fr_X12_lays, fr_bgn1, fr_X12_begin, fr_X12_setCorner, fr_fi1, fr_X12_fill, fr_fg1, fr_X12_forgets, fr_rc1, fr_rc2, fr_X12_reaches, fr_mfl1, fr_X12_flood, fr_mrg1, fr_X12_regions, fr_mra1, fr_X12_raise, fr_sp1, fr_X12_setPath, fr_sr1, fr_sr2, fr_X12_setRank, fr_X12_becomes]
def r_X12_setVariants (I : tq_I) (t q : Int32) (w h s : Nat) : Int32 := (if (tq_b ((nI 0).toInt ≤ t.toInt ∧ t.toInt ≤ (nI 5).toInt)) = 0 then (-2) else (if (tq_b ((nI 1).toInt ≤ q.toInt ∧ q.toInt ≤ (nI 8).toInt)) = 0 then (-3) else (r_X12_becomes I (16 + (tq_N t)) q w h s)))
def I_X12_setVariants (I : tq_I) (t q : Int32) (w h s : Nat) : tq_I := (if (tq_b ((nI 0).toInt ≤ t.toInt ∧ t.toInt ≤ (nI 5).toInt)) = 0 then I else (if (tq_b ((nI 1).toInt ≤ q.toInt ∧ q.toInt ≤ (nI 8).toInt)) = 0 then I else (I_X12_becomes I (16 + (tq_N t)) q w h s)))
set_option maxRecDepth 20000 in
theorem c_X12_setVariants (g : tq_G) (I : tq_I) (J : Int64) (t q : Int32) (w h s : Nat) (k : tr_wh I w h) (hs : I 117 1 = nI s) (hs5 : s ≤ 5)  : CT g mX12_setVariants 5 0 0 [.ref 117, .int t, .int q] (tq_SC ++ tq_SR) tq_RR I J (tq_ret (tq_SC ++ tq_SR) tq_RR (some (.int (r_X12_setVariants I t q w h s))) (I_X12_setVariants I t q w h s) J) := by
  refine CT.ret kX12_setVariants (Nat.le_of_ble_eq_true rfl) (fun x0 C hR hZ => ?_)
  refine EV_en (lv' := [some (.ref 117), some (.int t), some (.int q)]) 0 rfl ?_
  refine EV_blk (own := 12) C rfl [(.iload_n 1, 0, 0, 0, 0)] (pc' := 1) (by decide +kernel) (lv' := [some (.ref 117), some (.int t), some (.int q)]) (st' := [.int t]) (I' := I) (J' := J) rfl ?_
  refine EV_cS (own := 12) (idx := 80) (μ' := mX12_isTerrain) (av := [.int t]) (rest := []) C hR rfl (Or.inl ⟨983, by decide⟩) kX12_isTerrain sX12_isTerrain (c_X12_isTerrain g I J t ) (by decide +kernel) rfl (by decide) (Nat.le_of_ble_eq_true rfl) rfl ⟨Nat.zero_le _, Nat.zero_le _⟩ ?_
  refine EV_if_ne (off := 6) (tgt := 10) C (by decide +kernel) (by decide) (fun h1 => ?_) (fun h1 => ?_)
  · skip
    have ht := tq_t05 (tq_b10 h1)
    refine EV_lve (lv' := [some (.ref 117), some (.int (nI (tq_N t))), some (.int q)]) (by rw [← tq_nIN ht.1]) ?_
    refine EV_blk (own := 12) C rfl [(.iload_n 2, 0, 0, 0, 0), (.iconst 1, 0, 0, 0, (nI 1)), (.bipush 8, 0, 0, 0, (nI 8))] (pc' := 14) (by decide +kernel) (lv' := [some (.ref 117), some (.int (nI (tq_N t))), some (.int q)]) (st' := [.int (nI 8), .int (nI 1), .int q]) (I' := I) (J' := J) rfl ?_
    refine EV_cS (own := 12) (idx := 62) (μ' := mX12_in) (av := [.int q, .int (nI 1), .int (nI 8)]) (rest := []) C hR rfl (Or.inl ⟨896, by decide⟩) kX12_in sX12_in (c_X12_in g I J q (nI 1) (nI 8) ) (by decide +kernel) rfl (by decide) (Nat.le_of_ble_eq_true rfl) rfl ⟨Nat.zero_le _, Nat.zero_le _⟩ ?_
    refine EV_if_eq (off := 15) (tgt := 32) C (by decide +kernel) (by decide) (fun h2 => ?_) (fun h2 => ?_)
    · skip
      refine EV_blk (own := 12) C rfl [(.bipush (-3), 0, 0, 0, (-3))] (pc' := 34) (by decide +kernel) (lv' := [some (.ref 117), some (.int (nI (tq_N t))), some (.int q)]) (st' := [.int (-3)]) (I' := I) (J' := J) rfl ?_
      exact EV_iret C hZ rfl (by decide +kernel) (Nat.le_refl _) (Nat.le_refl _) ⟨tq_some (by simp only [r_X12_setVariants, if_neg h1, if_pos h2]), rfl, rfl, by simp only [I_X12_setVariants, if_neg h1, if_pos h2], rfl⟩
    · skip
      refine EV_blk (own := 12) C rfl [(.aload_n 0, 0, 0, 0, 0), (.bipush 16, 0, 0, 0, (nI 16)), (.iload_n 1, 0, 0, 0, 0), (.iadd, 0, 0, 0, 0), (.iload_n 2, 0, 0, 0, 0)] (pc' := 26) (by decide +kernel) (lv' := [some (.ref 117), some (.int (nI (tq_N t))), some (.int q)]) (st' := [.int q, .int ((nI 16) + (nI (tq_N t))), .ref 117]) (I' := I) (J' := J) rfl ?_
      rw [show ((nI 16) + (nI (tq_N t))) = (nI (16 + (tq_N t))) from by simp (disch := omega) only [nI_add, tq_mul, tq_rem_nI, tq_div_nI, tq_sub_nI]]
      refine EV_cV (own := 12) (idx := 124) (μ' := mX12_becomes) (b := 117) (cb := 12) (av := [.int (nI (16 + (tq_N t))), .int q]) (rest := []) C hR rfl (Or.inl ⟨1098, by decide⟩) kX12_becomes sX12_becomes (c_X12_becomes g I J (16 + (tq_N t)) q w h s k hs hs5 (by omega)) rfl rfl (by decide +kernel) rfl (by decide) (Nat.le_of_ble_eq_true rfl) rfl ⟨Nat.zero_le _, Nat.zero_le _⟩ ?_
      refine EV_blk (own := 12) C rfl [(.goto 5, 0, 0, 0, 0)] (pc' := 34) (by decide +kernel) (lv' := [some (.ref 117), some (.int (nI (tq_N t))), some (.int q)]) (st' := [.int (r_X12_becomes I (16 + (tq_N t)) q w h s)]) (I' := (I_X12_becomes I (16 + (tq_N t)) q w h s)) (J' := J) rfl ?_
      exact EV_iret C hZ rfl (by decide +kernel) (Nat.le_refl _) (Nat.le_refl _) ⟨tq_some (by simp only [r_X12_setVariants, if_neg h1, if_neg h2]), rfl, rfl, by simp only [I_X12_setVariants, if_neg h1, if_neg h2], rfl⟩
  · skip
    refine EV_blk (own := 12) C rfl [(.bipush (-2), 0, 0, 0, (-2))] (pc' := 9) (by decide +kernel) (lv' := [some (.ref 117), some (.int t), some (.int q)]) (st' := [.int (-2)]) (I' := I) (J' := J) rfl ?_
    exact EV_iret C hZ rfl (by decide +kernel) (Nat.le_refl _) (Nat.le_refl _) ⟨tq_some (by simp only [r_X12_setVariants, if_pos h1]), rfl, rfl, by simp only [I_X12_setVariants, if_pos h1], rfl⟩
theorem fr_X12_setVariants (I : tq_I) (t q : Int32) (w h s : Nat) {cz : Nat} (hc : cz ≠ 117 ∧ cz ≠ 118) (jz : Nat) : I_X12_setVariants I t q w h s cz jz = I cz jz := by
  obtain ⟨hc0, hc1⟩ := hc
  simp only [I_X12_setVariants]
  (repeat' split) <;> simp (disch := first | assumption | (simp only [ne_eq] at *; simp [*])) [tq_u, tq_cp, hc0, hc1, fr_X12_touches, fr_ta1, fr_X12_touchesAll, fr_cps1, fr_X12_copies, fr_sav, fr_bg1, fr_bg2, fr_X12_begins, fr_ly1, fr_X12_lays, fr_bgn1, fr_X12_begin, fr_X12_setCorner, fr_fi1, fr_X12_fill, fr_fg1, fr_X12_forgets, fr_rc1, fr_rc2, fr_X12_reaches, fr_mfl1, fr_X12_flood, fr_mrg1, fr_X12_regions, fr_mra1, fr_X12_raise, fr_sp1, fr_X12_setPath, fr_sr1, fr_sr2, fr_X12_setRank, fr_X12_becomes, fr_X12_setTiles]
def r_X12_setSeed (I : tq_I) (q : Int32) (w h s : Nat) : Int32 := (if (r_X12_becomes I 2 q w h s) = q then (nI 0) else (nI 1))
def I_X12_setSeed (I : tq_I) (q : Int32) (w h s : Nat) : tq_I := (if (r_X12_becomes I 2 q w h s) = q then (I_X12_becomes I 2 q w h s) else (I_X12_becomes I 2 q w h s))
set_option maxRecDepth 20000 in
theorem c_X12_setSeed (g : tq_G) (I : tq_I) (J : Int64) (q : Int32) (w h s : Nat) (k : tr_wh I w h) (hs : I 117 1 = nI s) (hs5 : s ≤ 5)  : CT g mX12_setSeed 5 0 0 [.ref 117, .int q] (tq_SC ++ tq_SR) tq_RR I J (tq_ret (tq_SC ++ tq_SR) tq_RR (some (.int (r_X12_setSeed I q w h s))) (I_X12_setSeed I q w h s) J) := by
  refine CT.ret kX12_setSeed (Nat.le_of_ble_eq_true rfl) (fun x0 C hR hZ => ?_)
  refine EV_en (lv' := [some (.ref 117), some (.int q)]) 0 rfl ?_
  refine EV_blk (own := 12) C rfl [(.aload_n 0, 0, 0, 0, 0), (.iconst 2, 0, 0, 0, (nI 2)), (.iload_n 1, 0, 0, 0, 0)] (pc' := 3) (by decide +kernel) (lv' := [some (.ref 117), some (.int q)]) (st' := [.int q, .int (nI 2), .ref 117]) (I' := I) (J' := J) rfl ?_
  refine EV_cV (own := 12) (idx := 124) (μ' := mX12_becomes) (b := 117) (cb := 12) (av := [.int (nI 2), .int q]) (rest := []) C hR rfl (Or.inl ⟨1098, by decide⟩) kX12_becomes sX12_becomes (c_X12_becomes g I J 2 q w h s k hs hs5 (by omega)) rfl rfl (by decide +kernel) rfl (by decide) (Nat.le_of_ble_eq_true rfl) rfl ⟨Nat.zero_le _, Nat.zero_le _⟩ ?_
  refine EV_blk (own := 12) C rfl [(.iload_n 1, 0, 0, 0, 0)] (pc' := 7) (by decide +kernel) (lv' := [some (.ref 117), some (.int q)]) (st' := [.int q, .int (r_X12_becomes I 2 q w h s)]) (I' := (I_X12_becomes I 2 q w h s)) (J' := J) rfl ?_
  refine EV_icmp_ne (off := 7) (tgt := 14) C (by decide +kernel) (by decide) (fun h1 => ?_) (fun h1 => ?_)
  · skip
    refine EV_blk (own := 12) C rfl [(.iconst 1, 0, 0, 0, (nI 1))] (pc' := 15) (by decide +kernel) (lv' := [some (.ref 117), some (.int q)]) (st' := [.int (nI 1)]) (I' := (I_X12_becomes I 2 q w h s)) (J' := J) rfl ?_
    exact EV_iret C hZ rfl (by decide +kernel) (Nat.le_refl _) (Nat.le_refl _) ⟨tq_some (by simp only [r_X12_setSeed, if_neg h1]), rfl, rfl, by simp only [I_X12_setSeed, if_neg h1], rfl⟩
  · skip
    refine EV_blk (own := 12) C rfl [(.iconst 0, 0, 0, 0, (nI 0)), (.goto 4, 0, 0, 0, 0)] (pc' := 15) (by decide +kernel) (lv' := [some (.ref 117), some (.int q)]) (st' := [.int (nI 0)]) (I' := (I_X12_becomes I 2 q w h s)) (J' := J) rfl ?_
    exact EV_iret C hZ rfl (by decide +kernel) (Nat.le_refl _) (Nat.le_refl _) ⟨tq_some (by simp only [r_X12_setSeed, if_pos h1]), rfl, rfl, by simp only [I_X12_setSeed, if_pos h1], rfl⟩
theorem fr_X12_setSeed (I : tq_I) (q : Int32) (w h s : Nat) {cz : Nat} (hc : cz ≠ 117 ∧ cz ≠ 118) (jz : Nat) : I_X12_setSeed I q w h s cz jz = I cz jz := by
  obtain ⟨hc0, hc1⟩ := hc
  simp only [I_X12_setSeed]
  (repeat' split) <;> simp (disch := first | assumption | (simp only [ne_eq] at *; simp [*])) [tq_u, tq_cp, hc0, hc1, fr_X12_touches, fr_ta1, fr_X12_touchesAll, fr_cps1, fr_X12_copies, fr_sav, fr_bg1, fr_bg2, fr_X12_begins, fr_ly1, fr_X12_lays, fr_bgn1, fr_X12_begin, fr_X12_setCorner, fr_fi1, fr_X12_fill, fr_fg1, fr_X12_forgets, fr_rc1, fr_rc2, fr_X12_reaches, fr_mfl1, fr_X12_flood, fr_mrg1, fr_X12_regions, fr_mra1, fr_X12_raise, fr_sp1, fr_X12_setPath, fr_sr1, fr_sr2, fr_X12_setRank, fr_X12_becomes, fr_X12_setTiles, fr_X12_setVariants]
def r_X12_setBorder (I : tq_I) (b : Int32) (w h s : Nat) : Int32 := (if b = 0 then (r_X12_becomes I 3 (nI 0) w h s) else (r_X12_becomes I 3 (nI 1) w h s))
def I_X12_setBorder (I : tq_I) (b : Int32) (w h s : Nat) : tq_I := (if b = 0 then (I_X12_becomes I 3 (nI 0) w h s) else (I_X12_becomes I 3 (nI 1) w h s))
set_option maxRecDepth 20000 in
theorem c_X12_setBorder (g : tq_G) (I : tq_I) (J : Int64) (b : Int32) (w h s : Nat) (k : tr_wh I w h) (hs : I 117 1 = nI s) (hs5 : s ≤ 5)  : CT g mX12_setBorder 5 0 0 [.ref 117, .int b] (tq_SC ++ tq_SR) tq_RR I J (tq_ret (tq_SC ++ tq_SR) tq_RR (some (.int (r_X12_setBorder I b w h s))) (I_X12_setBorder I b w h s) J) := by
  refine CT.ret kX12_setBorder (Nat.le_of_ble_eq_true rfl) (fun x0 C hR hZ => ?_)
  refine EV_en (lv' := [some (.ref 117), some (.int b)]) 0 rfl ?_
  refine EV_blk (own := 12) C rfl [(.aload_n 0, 0, 0, 0, 0), (.iconst 3, 0, 0, 0, (nI 3)), (.iload_n 1, 0, 0, 0, 0)] (pc' := 3) (by decide +kernel) (lv' := [some (.ref 117), some (.int b)]) (st' := [.int b, .int (nI 3), .ref 117]) (I' := I) (J' := J) rfl ?_
  refine EV_if_eq (off := 7) (tgt := 10) C (by decide +kernel) (by decide) (fun h1 => ?_) (fun h1 => ?_)
  · skip
    refine EV_blk (own := 12) C rfl [(.iconst 0, 0, 0, 0, (nI 0))] (pc' := 11) (by decide +kernel) (lv' := [some (.ref 117), some (.int b)]) (st' := [.int (nI 0), .int (nI 3), .ref 117]) (I' := I) (J' := J) rfl ?_
    refine EV_cV (own := 12) (idx := 124) (μ' := mX12_becomes) (b := 117) (cb := 12) (av := [.int (nI 3), .int (nI 0)]) (rest := []) C hR rfl (Or.inl ⟨1098, by decide⟩) kX12_becomes sX12_becomes (c_X12_becomes g I J 3 (nI 0) w h s k hs hs5 (by omega)) rfl rfl (by decide +kernel) rfl (by decide) (Nat.le_of_ble_eq_true rfl) rfl ⟨Nat.zero_le _, Nat.zero_le _⟩ ?_
    exact EV_iret C hZ rfl (by decide +kernel) (Nat.le_refl _) (Nat.le_refl _) ⟨tq_some (by simp only [r_X12_setBorder, if_pos h1]), rfl, rfl, by simp only [I_X12_setBorder, if_pos h1], rfl⟩
  · skip
    refine EV_blk (own := 12) C rfl [(.iconst 1, 0, 0, 0, (nI 1)), (.goto 4, 0, 0, 0, 0)] (pc' := 11) (by decide +kernel) (lv' := [some (.ref 117), some (.int b)]) (st' := [.int (nI 1), .int (nI 3), .ref 117]) (I' := I) (J' := J) rfl ?_
    refine EV_cV (own := 12) (idx := 124) (μ' := mX12_becomes) (b := 117) (cb := 12) (av := [.int (nI 3), .int (nI 1)]) (rest := []) C hR rfl (Or.inl ⟨1098, by decide⟩) kX12_becomes sX12_becomes (c_X12_becomes g I J 3 (nI 1) w h s k hs hs5 (by omega)) rfl rfl (by decide +kernel) rfl (by decide) (Nat.le_of_ble_eq_true rfl) rfl ⟨Nat.zero_le _, Nat.zero_le _⟩ ?_
    exact EV_iret C hZ rfl (by decide +kernel) (Nat.le_refl _) (Nat.le_refl _) ⟨tq_some (by simp only [r_X12_setBorder, if_neg h1]), rfl, rfl, by simp only [I_X12_setBorder, if_neg h1], rfl⟩
theorem fr_X12_setBorder (I : tq_I) (b : Int32) (w h s : Nat) {cz : Nat} (hc : cz ≠ 117 ∧ cz ≠ 118) (jz : Nat) : I_X12_setBorder I b w h s cz jz = I cz jz := by
  obtain ⟨hc0, hc1⟩ := hc
  simp only [I_X12_setBorder]
  (repeat' split) <;> simp (disch := first | assumption | (simp only [ne_eq] at *; simp [*])) [tq_u, tq_cp, hc0, hc1, fr_X12_touches, fr_ta1, fr_X12_touchesAll, fr_cps1, fr_X12_copies, fr_sav, fr_bg1, fr_bg2, fr_X12_begins, fr_ly1, fr_X12_lays, fr_bgn1, fr_X12_begin, fr_X12_setCorner, fr_fi1, fr_X12_fill, fr_fg1, fr_X12_forgets, fr_rc1, fr_rc2, fr_X12_reaches, fr_mfl1, fr_X12_flood, fr_mrg1, fr_X12_regions, fr_mra1, fr_X12_raise, fr_sp1, fr_X12_setPath, fr_sr1, fr_sr2, fr_X12_setRank, fr_X12_becomes, fr_X12_setTiles, fr_X12_setVariants, fr_X12_setSeed]
def r_X12_flipped (m t : Int32) : Int32 := (if (tq_rem t (nI 2)) = (nI 1) then (if t ≤ (nI 1) then (((m &&& (nI 5)) <<< ((nI 1) &&& 31)) ||| ((m >>> ((nI 1) &&& 31)) &&& (nI 5))) else ((((((m &&& (nI 5)) <<< ((nI 1) &&& 31)) ||| ((m >>> ((nI 1) &&& 31)) &&& (nI 5))) &&& (nI 3)) <<< ((nI 2) &&& 31)) ||| ((((m &&& (nI 5)) <<< ((nI 1) &&& 31)) ||| ((m >>> ((nI 1) &&& 31)) &&& (nI 5))) >>> ((nI 2) &&& 31)))) else (if t ≤ (nI 1) then m else (((m &&& (nI 3)) <<< ((nI 2) &&& 31)) ||| (m >>> ((nI 2) &&& 31)))))
set_option maxRecDepth 20000 in
theorem c_X12_flipped (g : tq_G) (I : tq_I) (J : Int64) (m t : Int32)  : CT g mX12_flipped 0 0 0 [.int m, .int t] (tq_SC ++ tq_SR) tq_RR I J (tq_ret (tq_SC ++ tq_SR) tq_RR (some (.int (r_X12_flipped m t))) I J) := by
  refine CT.ret kX12_flipped (Nat.le_of_ble_eq_true rfl) (fun x0 C hR hZ => ?_)
  refine EV_en (lv' := [some (.int m), some (.int t), none]) 1 rfl ?_
  refine EV_blk (own := 12) C rfl [(.iload_n 1, 0, 0, 0, 0), (.iconst 2, 0, 0, 0, (nI 2))] (pc' := 2) (by decide +kernel) (lv' := [some (.int m), some (.int t), none]) (st' := [.int (nI 2), .int t]) (I' := I) (J' := J) rfl ?_
  refine EV_irem C (by decide +kernel) (by decide) ?_
  refine EV_blk (own := 12) C rfl [(.iconst 1, 0, 0, 0, (nI 1))] (pc' := 4) (by decide +kernel) (lv' := [some (.int m), some (.int t), none]) (st' := [.int (nI 1), .int (tq_rem t (nI 2))]) (I' := I) (J' := J) rfl ?_
  refine EV_icmp_ne (off := 17) (tgt := 21) C (by decide +kernel) (by decide) (fun h1 => ?_) (fun h1 => ?_)
  · skip
    refine EV_blk (own := 12) C rfl [(.iload_n 0, 0, 0, 0, 0), (.istore_n 2, 0, 0, 0, 0), (.iload_n 1, 0, 0, 0, 0), (.iconst 1, 0, 0, 0, (nI 1))] (pc' := 25) (by decide +kernel) (lv' := [some (.int m), some (.int t), some (.int m)]) (st' := [.int (nI 1), .int t]) (I' := I) (J' := J) rfl ?_
    refine EV_icmp_le (off := 15) (tgt := 40) C (by decide +kernel) (by decide) (fun h2 => ?_) (fun h2 => ?_)
    · skip
      refine EV_blk (own := 12) C rfl [(.iload_n 2, 0, 0, 0, 0)] (pc' := 41) (by decide +kernel) (lv' := [some (.int m), some (.int t), some (.int m)]) (st' := [.int m]) (I' := I) (J' := J) rfl ?_
      exact EV_iret C hZ rfl (by decide +kernel) (Nat.le_refl _) (Nat.le_refl _) ⟨tq_some (by simp only [r_X12_flipped, if_neg h1, if_pos h2]), rfl, rfl, rfl, rfl⟩
    · skip
      refine EV_blk (own := 12) C rfl [(.iload_n 2, 0, 0, 0, 0), (.iconst 3, 0, 0, 0, (nI 3)), (.iand, 0, 0, 0, 0), (.iconst 2, 0, 0, 0, (nI 2)), (.ishl, 0, 0, 0, 0), (.iload_n 2, 0, 0, 0, 0), (.iconst 2, 0, 0, 0, (nI 2)), (.ishr, 0, 0, 0, 0), (.ior, 0, 0, 0, 0), (.goto 4, 0, 0, 0, 0)] (pc' := 41) (by decide +kernel) (lv' := [some (.int m), some (.int t), some (.int m)]) (st' := [.int (((m &&& (nI 3)) <<< ((nI 2) &&& 31)) ||| (m >>> ((nI 2) &&& 31)))]) (I' := I) (J' := J) rfl ?_
      exact EV_iret C hZ rfl (by decide +kernel) (Nat.le_refl _) (Nat.le_refl _) ⟨tq_some (by simp only [r_X12_flipped, if_neg h1, if_neg h2]), rfl, rfl, rfl, rfl⟩
  · skip
    refine EV_blk (own := 12) C rfl [(.iload_n 0, 0, 0, 0, 0), (.iconst 5, 0, 0, 0, (nI 5)), (.iand, 0, 0, 0, 0), (.iconst 1, 0, 0, 0, (nI 1)), (.ishl, 0, 0, 0, 0), (.iload_n 0, 0, 0, 0, 0), (.iconst 1, 0, 0, 0, (nI 1)), (.ishr, 0, 0, 0, 0), (.iconst 5, 0, 0, 0, (nI 5)), (.iand, 0, 0, 0, 0), (.ior, 0, 0, 0, 0), (.goto 4, 0, 0, 0, 0), (.istore_n 2, 0, 0, 0, 0), (.iload_n 1, 0, 0, 0, 0), (.iconst 1, 0, 0, 0, (nI 1))] (pc' := 25) (by decide +kernel) (lv' := [some (.int m), some (.int t), some (.int (((m &&& (nI 5)) <<< ((nI 1) &&& 31)) ||| ((m >>> ((nI 1) &&& 31)) &&& (nI 5))))]) (st' := [.int (nI 1), .int t]) (I' := I) (J' := J) rfl ?_
    refine EV_icmp_le (off := 15) (tgt := 40) C (by decide +kernel) (by decide) (fun h3 => ?_) (fun h3 => ?_)
    · skip
      refine EV_blk (own := 12) C rfl [(.iload_n 2, 0, 0, 0, 0)] (pc' := 41) (by decide +kernel) (lv' := [some (.int m), some (.int t), some (.int (((m &&& (nI 5)) <<< ((nI 1) &&& 31)) ||| ((m >>> ((nI 1) &&& 31)) &&& (nI 5))))]) (st' := [.int (((m &&& (nI 5)) <<< ((nI 1) &&& 31)) ||| ((m >>> ((nI 1) &&& 31)) &&& (nI 5)))]) (I' := I) (J' := J) rfl ?_
      exact EV_iret C hZ rfl (by decide +kernel) (Nat.le_refl _) (Nat.le_refl _) ⟨tq_some (by simp only [r_X12_flipped, if_pos h1, if_pos h3]), rfl, rfl, rfl, rfl⟩
    · skip
      refine EV_blk (own := 12) C rfl [(.iload_n 2, 0, 0, 0, 0), (.iconst 3, 0, 0, 0, (nI 3)), (.iand, 0, 0, 0, 0), (.iconst 2, 0, 0, 0, (nI 2)), (.ishl, 0, 0, 0, 0), (.iload_n 2, 0, 0, 0, 0), (.iconst 2, 0, 0, 0, (nI 2)), (.ishr, 0, 0, 0, 0), (.ior, 0, 0, 0, 0), (.goto 4, 0, 0, 0, 0)] (pc' := 41) (by decide +kernel) (lv' := [some (.int m), some (.int t), some (.int (((m &&& (nI 5)) <<< ((nI 1) &&& 31)) ||| ((m >>> ((nI 1) &&& 31)) &&& (nI 5))))]) (st' := [.int ((((((m &&& (nI 5)) <<< ((nI 1) &&& 31)) ||| ((m >>> ((nI 1) &&& 31)) &&& (nI 5))) &&& (nI 3)) <<< ((nI 2) &&& 31)) ||| ((((m &&& (nI 5)) <<< ((nI 1) &&& 31)) ||| ((m >>> ((nI 1) &&& 31)) &&& (nI 5))) >>> ((nI 2) &&& 31)))]) (I' := I) (J' := J) rfl ?_
      exact EV_iret C hZ rfl (by decide +kernel) (Nat.le_refl _) (Nat.le_refl _) ⟨tq_some (by simp only [r_X12_flipped, if_pos h1, if_neg h3]), rfl, rfl, rfl, rfl⟩
def f_mway1 (I : tq_I) (t : Nat) (m : Int32) (i : Nat) : Option Int32 := (if (((I 118 (10 + t)) >>> ((r_X12_flipped m (nI i)) &&& 31)) &&& (nI 1)) = (nI 1) then (some (nI i)) else none)
set_option maxRecDepth 20000 in
theorem lp_mway1 {g : tq_G} {x0 : tq_X} {res : Int32} (I : tq_I) (J : Int64) (C : tq_C g mX12_wayOf x0) (hR : tq_ht x0 1 0 0) (hZ : tq_end g x0 (tq_ret (tq_SC ++ tq_SR) tq_RR (some (.int res)) I J) 0 0) (t : Nat) (m : Int32) (ht : t ≤ 5) : ∀ (n i : Nat), i + n = 4 → res = tq_sr (f_mway1 I t m) n i (-1) → (res = (-1) → EV g mX12_wayOf x0 0 0 36 [some (.ref 117), some (.int (nI t)), some (.int m), none] [] (tq_SC ++ tq_SR) tq_RR I J) → EV g mX12_wayOf x0 0 0 2 [some (.ref 117), some (.int (nI t)), some (.int m), some (.int (nI i))] [] (tq_SC ++ tq_SR) tq_RR I J := by
  intro n
  induction n with
  | zero =>
    intro i hi hr kk
    refine EV_blk (own := 12) C rfl [(.iload_n 3, 0, 0, 0, 0), (.iconst 4, 0, 0, 0, (nI 4))] (pc' := 4) (by decide +kernel) (lv' := [some (.ref 117), some (.int (nI t)), some (.int m), some (.int (nI i))]) (st' := [.int (nI 4), .int (nI i)]) (I' := I) (J' := J) rfl ?_
    refine EV_icmp_ge (off := 32) (tgt := 36) C (by decide +kernel) (by decide) (fun h1 => ?_) (fun h1 => ?_)
    · skip
      exact EV_fg (lv' := [some (.ref 117), some (.int (nI t)), some (.int m), none]) ⟨rfl, rfl, rfl, trivial⟩ (kk hr)
    · skip
      exact absurd h1 (by simp (disch := omega) only [Int32.lt_iff_toInt_lt, Int32.le_iff_toInt_le, Int32.toInt_zero, nI_toInt, tq_m1]; omega)
  | succ n ih =>
    intro i hi hr kk
    refine EV_blk (own := 12) C rfl [(.iload_n 3, 0, 0, 0, 0), (.iconst 4, 0, 0, 0, (nI 4))] (pc' := 4) (by decide +kernel) (lv' := [some (.ref 117), some (.int (nI t)), some (.int m), some (.int (nI i))]) (st' := [.int (nI 4), .int (nI i)]) (I' := I) (J' := J) rfl ?_
    refine EV_icmp_ge (off := 32) (tgt := 36) C (by decide +kernel) (by decide) (fun h1 => ?_) (fun h1 => ?_)
    · skip
      exact absurd h1 (by simp (disch := omega) only [Int32.lt_iff_toInt_lt, Int32.le_iff_toInt_le, Int32.toInt_zero, nI_toInt, tq_m1]; omega)
    · skip
      refine EV_blk (own := 12) C rfl [(.aload_n 0, 0, 0, 0, 0), (.getfield 7, 12, 0, 899, 0), (.bipush 10, 0, 0, 0, (nI 10)), (.iload_n 1, 0, 0, 0, 0), (.iadd, 0, 0, 0, 0)] (pc' := 15) (by decide +kernel) (lv' := [some (.ref 117), some (.int (nI t)), some (.int m), some (.int (nI i))]) (st' := [.int ((nI 10) + (nI t)), .ref 118]) (I' := I) (J' := J) rfl ?_
      refine EV_iald (j := (10 + t)) C (by decide +kernel) rfl (tq_toI (10 + t) (by simp (disch := omega) only [nI_add, tq_mul, tq_rem_nI, tq_div_nI, tq_sub_nI]) (by omega)) (by omega) ?_
      refine EV_blk (own := 12) C rfl [(.iload_n 2, 0, 0, 0, 0), (.iload_n 3, 0, 0, 0, 0)] (pc' := 18) (by decide +kernel) (lv' := [some (.ref 117), some (.int (nI t)), some (.int m), some (.int (nI i))]) (st' := [.int (nI i), .int m, .int (I 118 (10 + t))]) (I' := I) (J' := J) rfl ?_
      refine EV_cS (own := 12) (idx := 127) (μ' := mX12_flipped) (av := [.int m, .int (nI i)]) (rest := [.int (I 118 (10 + t))]) C hR rfl (Or.inl ⟨1122, by decide⟩) kX12_flipped sX12_flipped (c_X12_flipped g I J m (nI i) ) (by decide +kernel) rfl (by decide) (Nat.le_of_ble_eq_true rfl) rfl ⟨Nat.zero_le _, Nat.zero_le _⟩ ?_
      refine EV_blk (own := 12) C rfl [(.ishr, 0, 0, 0, 0), (.iconst 1, 0, 0, 0, (nI 1)), (.iand, 0, 0, 0, 0), (.iconst 1, 0, 0, 0, (nI 1))] (pc' := 25) (by decide +kernel) (lv' := [some (.ref 117), some (.int (nI t)), some (.int m), some (.int (nI i))]) (st' := [.int (nI 1), .int (((I 118 (10 + t)) >>> ((r_X12_flipped m (nI i)) &&& 31)) &&& (nI 1))]) (I' := I) (J' := J) rfl ?_
      refine EV_icmp_ne (off := 5) (tgt := 30) C (by decide +kernel) (by decide) (fun h2 => ?_) (fun h2 => ?_)
      · skip
        refine EV_blk (own := 12) C rfl [(.iinc 3 1, 0, 0, 0, (nI 1)), (.goto (-31), 0, 0, 0, 0)] (pc' := 2) (by decide +kernel) (lv' := [some (.ref 117), some (.int (nI t)), some (.int m), some (.int ((nI i) + (nI 1)))]) (st' := []) (I' := I) (J' := J) rfl ?_
        rw [show ((nI i) + (nI 1)) = (nI (i + 1)) from by simp (disch := omega) only [nI_add, tq_mul] <;> exact congrArg nI (by omega)]
        exact ih (i + 1) (by omega) (hr.trans (tq_sr_none (show (f_mway1 I t m) i = none from by simp only [f_mway1, if_neg h1, if_neg h2]))) kk
      · skip
        refine EV_blk (own := 12) C rfl [(.iload_n 3, 0, 0, 0, 0)] (pc' := 29) (by decide +kernel) (lv' := [some (.ref 117), some (.int (nI t)), some (.int m), some (.int (nI i))]) (st' := [.int (nI i)]) (I' := I) (J' := J) rfl ?_
        exact EV_iret C hZ rfl (by decide +kernel) (Nat.le_refl _) (Nat.le_refl _) ⟨tq_some ((hr.trans (tq_sr_some (show (f_mway1 I t m) i = some (nI i) from by simp only [f_mway1, if_neg h1, if_pos h2]))).symm), rfl, rfl, rfl, rfl⟩
def r_X12_wayOf (I : tq_I) (t : Nat) (m : Int32) : Int32 := (tq_sr (f_mway1 I t m) 4 0 (-1))
set_option maxRecDepth 20000 in
theorem c_X12_wayOf (g : tq_G) (I : tq_I) (J : Int64) (t : Nat) (m : Int32) (ht : t ≤ 5) : CT g mX12_wayOf 1 0 0 [.ref 117, .int (nI t), .int m] (tq_SC ++ tq_SR) tq_RR I J (tq_ret (tq_SC ++ tq_SR) tq_RR (some (.int (r_X12_wayOf I t m))) I J) := by
  refine CT.ret kX12_wayOf (Nat.le_of_ble_eq_true rfl) (fun x0 C hR hZ => ?_)
  refine EV_en (lv' := [some (.ref 117), some (.int (nI t)), some (.int m), none]) 1 rfl ?_
  refine EV_blk (own := 12) C rfl [(.iconst 0, 0, 0, 0, (nI 0)), (.istore_n 3, 0, 0, 0, 0)] (pc' := 2) (by decide +kernel) (lv' := [some (.ref 117), some (.int (nI t)), some (.int m), some (.int (nI 0))]) (st' := []) (I' := I) (J' := J) rfl ?_
  refine lp_mway1 I J C hR hZ t m ht 4 0 (by omega) (by simp only [r_X12_wayOf]) (fun hd => ?_)
  refine EV_blk (own := 12) C rfl [(.iconst (-1), 0, 0, 0, (-1))] (pc' := 37) (by decide +kernel) (lv' := [some (.ref 117), some (.int (nI t)), some (.int m), none]) (st' := [.int (-1)]) (I' := I) (J' := J) rfl ?_
  exact EV_iret C hZ rfl (by decide +kernel) (Nat.le_refl _) (Nat.le_refl _) ⟨tq_some hd.symm, rfl, rfl, rfl, rfl⟩
def r_X12_way (I : tq_I) (t q : Int32) (w h s : Nat) : Int32 := (if (tq_b ((nI 0).toInt ≤ t.toInt ∧ t.toInt ≤ (nI 5).toInt)) = 0 then (-2) else (if (tq_b ((nI 1).toInt ≤ q.toInt ∧ q.toInt ≤ (nI 15).toInt)) = 0 then (-3) else (r_X12_wayOf I (tq_N t) q)))
set_option maxRecDepth 20000 in
theorem c_X12_way (g : tq_G) (I : tq_I) (J : Int64) (t q : Int32) (w h s : Nat) (k : tr_wh I w h) (hs : I 117 1 = nI s) (hs5 : s ≤ 5)  : CT g mX12_way 2 0 0 [.ref 117, .int t, .int q] (tq_SC ++ tq_SR) tq_RR I J (tq_ret (tq_SC ++ tq_SR) tq_RR (some (.int (r_X12_way I t q w h s))) I J) := by
  refine CT.ret kX12_way (Nat.le_of_ble_eq_true rfl) (fun x0 C hR hZ => ?_)
  refine EV_en (lv' := [some (.ref 117), some (.int t), some (.int q)]) 0 rfl ?_
  refine EV_blk (own := 12) C rfl [(.iload_n 1, 0, 0, 0, 0)] (pc' := 1) (by decide +kernel) (lv' := [some (.ref 117), some (.int t), some (.int q)]) (st' := [.int t]) (I' := I) (J' := J) rfl ?_
  refine EV_cS (own := 12) (idx := 80) (μ' := mX12_isTerrain) (av := [.int t]) (rest := []) C hR rfl (Or.inl ⟨983, by decide⟩) kX12_isTerrain sX12_isTerrain (c_X12_isTerrain g I J t ) (by decide +kernel) rfl (by decide) (Nat.le_of_ble_eq_true rfl) rfl ⟨Nat.zero_le _, Nat.zero_le _⟩ ?_
  refine EV_if_ne (off := 6) (tgt := 10) C (by decide +kernel) (by decide) (fun h1 => ?_) (fun h1 => ?_)
  · skip
    have ht := tq_t05 (tq_b10 h1)
    refine EV_lve (lv' := [some (.ref 117), some (.int (nI (tq_N t))), some (.int q)]) (by rw [← tq_nIN ht.1]) ?_
    refine EV_blk (own := 12) C rfl [(.iload_n 2, 0, 0, 0, 0), (.iconst 1, 0, 0, 0, (nI 1)), (.bipush 15, 0, 0, 0, (nI 15))] (pc' := 14) (by decide +kernel) (lv' := [some (.ref 117), some (.int (nI (tq_N t))), some (.int q)]) (st' := [.int (nI 15), .int (nI 1), .int q]) (I' := I) (J' := J) rfl ?_
    refine EV_cS (own := 12) (idx := 62) (μ' := mX12_in) (av := [.int q, .int (nI 1), .int (nI 15)]) (rest := []) C hR rfl (Or.inl ⟨896, by decide⟩) kX12_in sX12_in (c_X12_in g I J q (nI 1) (nI 15) ) (by decide +kernel) rfl (by decide) (Nat.le_of_ble_eq_true rfl) rfl ⟨Nat.zero_le _, Nat.zero_le _⟩ ?_
    refine EV_if_eq (off := 12) (tgt := 29) C (by decide +kernel) (by decide) (fun h2 => ?_) (fun h2 => ?_)
    · skip
      refine EV_blk (own := 12) C rfl [(.bipush (-3), 0, 0, 0, (-3))] (pc' := 31) (by decide +kernel) (lv' := [some (.ref 117), some (.int (nI (tq_N t))), some (.int q)]) (st' := [.int (-3)]) (I' := I) (J' := J) rfl ?_
      exact EV_iret C hZ rfl (by decide +kernel) (Nat.le_refl _) (Nat.le_refl _) ⟨tq_some (by simp only [r_X12_way, if_neg h1, if_pos h2]), rfl, rfl, rfl, rfl⟩
    · skip
      refine EV_blk (own := 12) C rfl [(.aload_n 0, 0, 0, 0, 0), (.iload_n 1, 0, 0, 0, 0), (.iload_n 2, 0, 0, 0, 0)] (pc' := 23) (by decide +kernel) (lv' := [some (.ref 117), some (.int (nI (tq_N t))), some (.int q)]) (st' := [.int q, .int (nI (tq_N t)), .ref 117]) (I' := I) (J' := J) rfl ?_
      refine EV_cV (own := 12) (idx := 130) (μ' := mX12_wayOf) (b := 117) (cb := 12) (av := [.int (nI (tq_N t)), .int q]) (rest := []) C hR rfl (Or.inl ⟨1118, by decide⟩) kX12_wayOf sX12_wayOf (c_X12_wayOf g I J (tq_N t) q (by omega)) rfl rfl (by decide +kernel) rfl (by decide) (Nat.le_of_ble_eq_true rfl) rfl ⟨Nat.zero_le _, Nat.zero_le _⟩ ?_
      refine EV_blk (own := 12) C rfl [(.goto 5, 0, 0, 0, 0)] (pc' := 31) (by decide +kernel) (lv' := [some (.ref 117), some (.int (nI (tq_N t))), some (.int q)]) (st' := [.int (r_X12_wayOf I (tq_N t) q)]) (I' := I) (J' := J) rfl ?_
      exact EV_iret C hZ rfl (by decide +kernel) (Nat.le_refl _) (Nat.le_refl _) ⟨tq_some (by simp only [r_X12_way, if_neg h1, if_neg h2]), rfl, rfl, rfl, rfl⟩
  · skip
    refine EV_blk (own := 12) C rfl [(.bipush (-2), 0, 0, 0, (-2))] (pc' := 9) (by decide +kernel) (lv' := [some (.ref 117), some (.int t), some (.int q)]) (st' := [.int (-2)]) (I' := I) (J' := J) rfl ?_
    exact EV_iret C hZ rfl (by decide +kernel) (Nat.le_refl _) (Nat.le_refl _) ⟨tq_some (by simp only [r_X12_way, if_pos h1]), rfl, rfl, rfl, rfl⟩
