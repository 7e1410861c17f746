/-! State: what is touched; Canvas: wipe, codes; a new map, a corner, a path changed. Cells: 1 the state, 2 its land .. 16 its touches -/
def f_tb1 (l t r b : Nat) (y : Int32) (i : Nat) (a : tq_I) : tq_I := (if (tq_b (tq_cell a ((nI (l + i)) - (nI 1)) y)) = 0 then a else (tq_u a 16 (tq_N y * 10 + tq_N ((nI (l + i)) - (nI 1))) (nI 1)))
set_option maxRecDepth 20000 in
theorem lp_tb1 {g : tq_G} {rest : List tq_S} {x0 : tq_X} (C : tq_C g mX8_touchBlock x0) (hR : tq_ht x0 1 0 0) (J : Int64) (l t r b : Nat) (y : Int32) (hl : l ≤ r + 1) (hr : r ≤ 20) : ∀ (n i : Nat) (a : tq_I), i + n = r + 1 - l → (a 2 0).toInt ≤ 10 ∧ (a 2 1).toInt ≤ 10 → EV g mX8_touchBlock x0 0 0 55 [some (.ref 1), some (.int ((nI l) - (nI 1))), some (.int ((nI t) - (nI 1))), some (.int ((nI r) - (nI 1))), some (.int ((nI b) - (nI 1))), some (.int y), some (.int ((nI (l + (i + n))) - (nI 1)))] [] (tq_SC ++ rest) tq_RR (tq_it (f_tb1 l t r b y) n i a) J → EV g mX8_touchBlock x0 0 0 13 [some (.ref 1), some (.int ((nI l) - (nI 1))), some (.int ((nI t) - (nI 1))), some (.int ((nI r) - (nI 1))), some (.int ((nI b) - (nI 1))), some (.int y), some (.int ((nI (l + i)) - (nI 1)))] [] (tq_SC ++ rest) tq_RR a J := by
  intro n
  induction n with
  | zero =>
    intro i a hi hI kk
    rw [Nat.add_zero] at kk
    refine EV_blk (own := 8) C rfl [(.iload 6, 0, 0, 0, 0), (.iload_n 3, 0, 0, 0, 0)] (pc' := 16) (by decide +kernel) (lv' := [some (.ref 1), some (.int ((nI l) - (nI 1))), some (.int ((nI t) - (nI 1))), some (.int ((nI r) - (nI 1))), some (.int ((nI b) - (nI 1))), some (.int y), some (.int ((nI (l + i)) - (nI 1)))]) (st' := [.int ((nI r) - (nI 1)), .int ((nI (l + i)) - (nI 1))]) (I' := a) (J' := J) rfl ?_
    refine EV_icmp_gt (off := 39) (tgt := 55) C (by decide +kernel) (by decide) (fun h1 => ?_) (fun h1 => ?_)
    · skip
      exact kk
    · skip
      exact absurd h1 (by simp (disch := omega) only [Int32.lt_iff_toInt_lt, Int32.le_iff_toInt_le, Int32.toInt_zero, nI_toInt, tq_m1]; omega)
  | succ n ih =>
    intro i a hi hI kk
    rw [show i + (n + 1) = (i + 1) + n by omega] at kk
    refine EV_blk (own := 8) C rfl [(.iload 6, 0, 0, 0, 0), (.iload_n 3, 0, 0, 0, 0)] (pc' := 16) (by decide +kernel) (lv' := [some (.ref 1), some (.int ((nI l) - (nI 1))), some (.int ((nI t) - (nI 1))), some (.int ((nI r) - (nI 1))), some (.int ((nI b) - (nI 1))), some (.int y), some (.int ((nI (l + i)) - (nI 1)))]) (st' := [.int ((nI r) - (nI 1)), .int ((nI (l + i)) - (nI 1))]) (I' := a) (J' := J) rfl ?_
    refine EV_icmp_gt (off := 39) (tgt := 55) C (by decide +kernel) (by decide) (fun h1 => ?_) (fun h1 => ?_)
    · skip
      exact absurd h1 (by simp (disch := omega) only [Int32.lt_iff_toInt_lt, Int32.le_iff_toInt_le, Int32.toInt_zero, nI_toInt, tq_m1]; omega)
    · skip
      refine EV_blk (own := 8) C rfl [(.aload_n 0, 0, 0, 0, 0), (.getfield 12, 8, 0, 190, 0), (.iload 6, 0, 0, 0, 0), (.iload 5, 0, 0, 0, 0)] (pc' := 27) (by decide +kernel) (lv' := [some (.ref 1), some (.int ((nI l) - (nI 1))), some (.int ((nI t) - (nI 1))), some (.int ((nI r) - (nI 1))), some (.int ((nI b) - (nI 1))), some (.int y), some (.int ((nI (l + i)) - (nI 1)))]) (st' := [.int y, .int ((nI (l + i)) - (nI 1)), .ref 2]) (I' := a) (J' := J) rfl ?_
      refine EV_cV (own := 8) (idx := 83) (μ' := mX3_isCell) (b := 2) (cb := 3) (av := [.int ((nI (l + i)) - (nI 1)), .int y]) (rest := []) C hR rfl (Or.inl ⟨361, by decide⟩) kX3_isCell sX3_isCell (c_X3_isCell g rest a J ((nI (l + i)) - (nI 1)) y ) rfl rfl (by decide +kernel) rfl (by decide) (Nat.le_of_ble_eq_true rfl) rfl ⟨Nat.zero_le _, Nat.zero_le _⟩ ?_
      refine EV_if_eq (off := 19) (tgt := 49) C (by decide +kernel) (by decide) (fun h2 => ?_) (fun h2 => ?_)
      · skip
        refine EV_blk (own := 8) C rfl [(.iinc 6 1, 0, 0, 0, (nI 1)), (.goto (-39), 0, 0, 0, 0)] (pc' := 13) (by decide +kernel) (lv' := [some (.ref 1), some (.int ((nI l) - (nI 1))), some (.int ((nI t) - (nI 1))), some (.int ((nI r) - (nI 1))), some (.int ((nI b) - (nI 1))), some (.int y), some (.int (((nI (l + i)) - (nI 1)) + (nI 1)))]) (st' := []) (I' := a) (J' := J) rfl ?_
        rw [show (((nI (l + i)) - (nI 1)) + (nI 1)) = ((nI (l + (i + 1))) - (nI 1)) from by exact tq_inc1 _]
        rw [tq_its, show (f_tb1 l t r b y) i a = a from by simp only [f_tb1, if_neg h1, if_pos h2]] at kk
        exact ih (i + 1) a (by omega) hI kk
      · skip
        have h0 := tq_b1.mp (tq_b01.resolve_left h2)
        have h0b := hI
        refine EV_blk (own := 8) C rfl [(.aload_n 0, 0, 0, 0, 0), (.getfield 28, 8, 2, 197, 0), (.getfield 87, 1, 3, 179, 0), (.iload 6, 0, 0, 0, 0), (.iload 5, 0, 0, 0, 0)] (pc' := 44) (by decide +kernel) (lv' := [some (.ref 1), some (.int ((nI l) - (nI 1))), some (.int ((nI t) - (nI 1))), some (.int ((nI r) - (nI 1))), some (.int ((nI b) - (nI 1))), some (.int y), some (.int ((nI (l + i)) - (nI 1)))]) (st' := [.int y, .int ((nI (l + i)) - (nI 1)), .ref 16]) (I' := a) (J' := J) rfl ?_
        refine EV_cS (own := 8) (idx := 80) (μ' := mX11_cellIndex) (av := [.int ((nI (l + i)) - (nI 1)), .int y]) (rest := [.ref 16]) C hR rfl (Or.inr ⟨365, by decide⟩) kX11_cellIndex sX11_cellIndex (cI_X11_cellIndex g rest a J ((nI (l + i)) - (nI 1)) y ) (by decide +kernel) rfl (by decide) (Nat.le_of_ble_eq_true rfl) rfl ⟨Nat.zero_le _, Nat.zero_le _⟩ ?_
        refine EV_blk (own := 8) C rfl [(.iconst 1, 0, 0, 0, (nI 1))] (pc' := 48) (by decide +kernel) (lv' := [some (.ref 1), some (.int ((nI l) - (nI 1))), some (.int ((nI t) - (nI 1))), some (.int ((nI r) - (nI 1))), some (.int ((nI b) - (nI 1))), some (.int y), some (.int ((nI (l + i)) - (nI 1)))]) (st' := [.int (nI 1), .int ((y * (nI 10)) + ((nI (l + i)) - (nI 1))), .ref 16]) (I' := a) (J' := J) rfl ?_
        refine EV_iast (j := (tq_N y * 10 + tq_N ((nI (l + i)) - (nI 1)))) C (by decide +kernel) rfl (tq_ix 10 h0.1 (by omega) h0.2.2.1 (by omega) (by decide)) (by unfold tq_N; omega) ?_
        refine EV_blk (own := 8) C rfl [(.iinc 6 1, 0, 0, 0, (nI 1)), (.goto (-39), 0, 0, 0, 0)] (pc' := 13) (by decide +kernel) (lv' := [some (.ref 1), some (.int ((nI l) - (nI 1))), some (.int ((nI t) - (nI 1))), some (.int ((nI r) - (nI 1))), some (.int ((nI b) - (nI 1))), some (.int y), some (.int (((nI (l + i)) - (nI 1)) + (nI 1)))]) (st' := []) (I' := (tq_u a 16 (tq_N y * 10 + tq_N ((nI (l + i)) - (nI 1))) (nI 1))) (J' := J) rfl ?_
        rw [show (((nI (l + i)) - (nI 1)) + (nI 1)) = ((nI (l + (i + 1))) - (nI 1)) from by exact tq_inc1 _]
        rw [tq_its, show (f_tb1 l t r b y) i a = (tq_u a 16 (tq_N y * 10 + tq_N ((nI (l + i)) - (nI 1))) (nI 1)) from by simp only [f_tb1, if_neg h1, if_neg h2]] at kk
        exact ih (i + 1) (tq_u a 16 (tq_N y * 10 + tq_N ((nI (l + i)) - (nI 1))) (nI 1)) (by omega) hI kk
theorem fr_tb1 (l t r b : Nat) (y : Int32) {cz : Nat} (hc : cz ≠ 16) (n i : Nat) (a : tq_I) (jz : Nat) : (tq_it (f_tb1 l t r b y) n i a) cz jz = a cz jz := by
  have hc0 := hc
  refine tq_itF (fun i a j => ?_) n i a jz
  simp only [f_tb1]
  (repeat' split) <;> simp (disch := first | assumption | (simp only [ne_eq] at *; simp [*])) [tq_u, tq_cp, hc0]
def f_tb2 (l t r b : Nat) (i : Nat) (a : tq_I) : tq_I := (tq_it (f_tb1 l t r b ((nI (t + i)) - (nI 1))) (r + 1 - l) 0 a)
set_option maxRecDepth 20000 in
theorem lp_tb2 {g : tq_G} {rest : List tq_S} {x0 : tq_X} (C : tq_C g mX8_touchBlock x0) (hR : tq_ht x0 1 0 0) (J : Int64) (l t r b : Nat) (hl : l ≤ r + 1) (ht : t ≤ b + 1) (hr : r ≤ 20) (hb : b ≤ 20) : ∀ (n i : Nat) (a : tq_I), i + n = b + 1 - t → (a 2 0).toInt ≤ 10 ∧ (a 2 1).toInt ≤ 10 → EV g mX8_touchBlock x0 0 0 61 [some (.ref 1), some (.int ((nI l) - (nI 1))), some (.int ((nI t) - (nI 1))), some (.int ((nI r) - (nI 1))), some (.int ((nI b) - (nI 1))), some (.int ((nI (t + (i + n))) - (nI 1))), none] [] (tq_SC ++ rest) tq_RR (tq_it (f_tb2 l t r b) n i a) J → EV g mX8_touchBlock x0 0 0 3 [some (.ref 1), some (.int ((nI l) - (nI 1))), some (.int ((nI t) - (nI 1))), some (.int ((nI r) - (nI 1))), some (.int ((nI b) - (nI 1))), some (.int ((nI (t + i)) - (nI 1))), none] [] (tq_SC ++ rest) tq_RR a J := by
  intro n
  induction n with
  | zero =>
    intro i a hi hI kk
    rw [Nat.add_zero] at kk
    refine EV_blk (own := 8) C rfl [(.iload 5, 0, 0, 0, 0), (.iload 4, 0, 0, 0, 0)] (pc' := 7) (by decide +kernel) (lv' := [some (.ref 1), some (.int ((nI l) - (nI 1))), some (.int ((nI t) - (nI 1))), some (.int ((nI r) - (nI 1))), some (.int ((nI b) - (nI 1))), some (.int ((nI (t + i)) - (nI 1))), none]) (st' := [.int ((nI b) - (nI 1)), .int ((nI (t + i)) - (nI 1))]) (I' := a) (J' := J) rfl ?_
    refine EV_icmp_gt (off := 54) (tgt := 61) C (by decide +kernel) (by decide) (fun h1 => ?_) (fun h1 => ?_)
    · skip
      exact kk
    · skip
      exact absurd h1 (by simp (disch := omega) only [Int32.lt_iff_toInt_lt, Int32.le_iff_toInt_le, Int32.toInt_zero, nI_toInt, tq_m1]; omega)
  | succ n ih =>
    intro i a hi hI kk
    rw [show i + (n + 1) = (i + 1) + n by omega] at kk
    refine EV_blk (own := 8) C rfl [(.iload 5, 0, 0, 0, 0), (.iload 4, 0, 0, 0, 0)] (pc' := 7) (by decide +kernel) (lv' := [some (.ref 1), some (.int ((nI l) - (nI 1))), some (.int ((nI t) - (nI 1))), some (.int ((nI r) - (nI 1))), some (.int ((nI b) - (nI 1))), some (.int ((nI (t + i)) - (nI 1))), none]) (st' := [.int ((nI b) - (nI 1)), .int ((nI (t + i)) - (nI 1))]) (I' := a) (J' := J) rfl ?_
    refine EV_icmp_gt (off := 54) (tgt := 61) C (by decide +kernel) (by decide) (fun h1 => ?_) (fun h1 => ?_)
    · skip
      exact absurd h1 (by simp (disch := omega) only [Int32.lt_iff_toInt_lt, Int32.le_iff_toInt_le, Int32.toInt_zero, nI_toInt, tq_m1]; omega)
    · skip
      refine EV_blk (own := 8) C rfl [(.iload_n 1, 0, 0, 0, 0), (.istore 6, 0, 0, 0, 0)] (pc' := 13) (by decide +kernel) (lv' := [some (.ref 1), some (.int ((nI l) - (nI 1))), some (.int ((nI t) - (nI 1))), some (.int ((nI r) - (nI 1))), some (.int ((nI b) - (nI 1))), some (.int ((nI (t + i)) - (nI 1))), some (.int ((nI l) - (nI 1)))]) (st' := []) (I' := a) (J' := J) rfl ?_
      refine lp_tb1 C hR J l t r b ((nI (t + i)) - (nI 1)) hl hr (r + 1 - l) 0 a (by omega) hI ?_
      refine EV_blk (own := 8) C rfl [(.iinc 5 1, 0, 0, 0, (nI 1)), (.goto (-55), 0, 0, 0, 0)] (pc' := 3) (by decide +kernel) (lv' := [some (.ref 1), some (.int ((nI l) - (nI 1))), some (.int ((nI t) - (nI 1))), some (.int ((nI r) - (nI 1))), some (.int ((nI b) - (nI 1))), some (.int (((nI (t + i)) - (nI 1)) + (nI 1))), some (.int ((nI (l + (0 + (r + 1 - l)))) - (nI 1)))]) (st' := []) (I' := (tq_it (f_tb1 l t r b ((nI (t + i)) - (nI 1))) (r + 1 - l) 0 a)) (J' := J) rfl ?_
      refine EV_fg (lv' := [some (.ref 1), some (.int ((nI l) - (nI 1))), some (.int ((nI t) - (nI 1))), some (.int ((nI r) - (nI 1))), some (.int ((nI b) - (nI 1))), some (.int (((nI (t + i)) - (nI 1)) + (nI 1))), none]) ⟨rfl, rfl, rfl, rfl, rfl, rfl, trivial⟩ ?_
      rw [show (((nI (t + i)) - (nI 1)) + (nI 1)) = ((nI (t + (i + 1))) - (nI 1)) from by exact tq_inc1 _]
      rw [tq_its, show (f_tb2 l t r b) i a = (tq_it (f_tb1 l t r b ((nI (t + i)) - (nI 1))) (r + 1 - l) 0 a) from by simp only [f_tb2, if_neg h1]] at kk
      exact ih (i + 1) (tq_it (f_tb1 l t r b ((nI (t + i)) - (nI 1))) (r + 1 - l) 0 a) (by omega) (by rw [fr_tb1 _ _ _ _ _ (by decide), fr_tb1 _ _ _ _ _ (by decide)]; exact hI) kk
theorem fr_tb2 (l t r b : Nat) {cz : Nat} (hc : cz ≠ 16) (n i : Nat) (a : tq_I) (jz : Nat) : (tq_it (f_tb2 l t r b) n i a) cz jz = a cz jz := by
  have hc0 := hc
  refine tq_itF (fun i a j => ?_) n i a jz
  simp only [f_tb2]
  (repeat' split) <;> simp (disch := first | assumption | (simp only [ne_eq] at *; simp [*])) [tq_u, tq_cp, hc0, fr_tb1]
def I_X8_touchBlock (I : tq_I) (l t r b : Nat) : tq_I := (tq_it (f_tb2 l t r b) (b + 1 - t) 0 I)
set_option maxRecDepth 20000 in
theorem c_X8_touchBlock (g : tq_G) (rest : List tq_S) (I : tq_I) (J : Int64) (l t r b : Nat) (hl : l ≤ r + 1) (ht : t ≤ b + 1) (hr : r ≤ 20) (hb : b ≤ 20) (hI : (I 2 0).toInt ≤ 10 ∧ (I 2 1).toInt ≤ 10) : CT g mX8_touchBlock 1 0 0 [.ref 1, .int ((nI l) - (nI 1)), .int ((nI t) - (nI 1)), .int ((nI r) - (nI 1)), .int ((nI b) - (nI 1))] (tq_SC ++ rest) tq_RR I J (tq_ret (tq_SC ++ rest) tq_RR none (I_X8_touchBlock I l t r b) J) := by
  refine CT.ret kX8_touchBlock (Nat.le_of_ble_eq_true rfl) (fun x0 C hR hZ => ?_)
  refine EV_en (lv' := [some (.ref 1), some (.int ((nI l) - (nI 1))), some (.int ((nI t) - (nI 1))), some (.int ((nI r) - (nI 1))), some (.int ((nI b) - (nI 1))), none, none]) 2 rfl ?_
  refine EV_blk (own := 8) C rfl [(.iload_n 2, 0, 0, 0, 0), (.istore 5, 0, 0, 0, 0)] (pc' := 3) (by decide +kernel) (lv' := [some (.ref 1), some (.int ((nI l) - (nI 1))), some (.int ((nI t) - (nI 1))), some (.int ((nI r) - (nI 1))), some (.int ((nI b) - (nI 1))), some (.int ((nI t) - (nI 1))), none]) (st' := []) (I' := I) (J' := J) rfl ?_
  refine lp_tb2 C hR J l t r b hl ht hr hb (b + 1 - t) 0 I (by omega) hI ?_
  exact EV_vret C hZ rfl (by decide +kernel) (Nat.le_refl _) (Nat.le_refl _) ⟨rfl, rfl, rfl, by simp only [I_X8_touchBlock], rfl⟩
theorem fr_X8_touchBlock (I : tq_I) (l t r b : Nat) {cz : Nat} (hc : cz ≠ 16) (jz : Nat) : I_X8_touchBlock I l t r b cz jz = I cz jz := by
  have hc0 := hc
  simp only [I_X8_touchBlock]
  (repeat' split) <;> simp (disch := first | assumption | (simp only [ne_eq] at *; simp [*])) [tq_u, tq_cp, hc0, fr_tb1, fr_tb2]
def I_X8_touchAll (I : tq_I) (w h : Nat) : tq_I := (I_X8_touchBlock I 1 1 w h)
set_option maxRecDepth 20000 in
theorem c_X8_touchAll (g : tq_G) (rest : List tq_S) (I : tq_I) (J : Int64) (w h : Nat) (hw : I 2 0 = nI w) (hh : I 2 1 = nI h) (hw10 : w ≤ 10) (hh10 : h ≤ 10) : CT g mX8_touchAll 2 0 0 [.ref 1] (tq_SC ++ rest) tq_RR I J (tq_ret (tq_SC ++ rest) tq_RR none (I_X8_touchAll I w h) J) := by
  refine CT.ret kX8_touchAll (Nat.le_of_ble_eq_true rfl) (fun x0 C hR hZ => ?_)
  refine EV_en (lv' := [some (.ref 1)]) 0 rfl ?_
  have hI : (I 2 0).toInt ≤ 10 ∧ (I 2 1).toInt ≤ 10 := by rw [hw, hh, nI_toInt (by omega), nI_toInt (by omega)]; omega
  refine EV_blk (own := 8) C rfl [(.aload_n 0, 0, 0, 0, 0), (.iconst 0, 0, 0, 0, (nI 0)), (.iconst 0, 0, 0, 0, (nI 0)), (.aload_n 0, 0, 0, 0, 0), (.getfield 12, 8, 0, 190, 0), (.getfield 42, 3, 0, 97, 0), (.iconst 1, 0, 0, 0, (nI 1)), (.isub, 0, 0, 0, 0), (.aload_n 0, 0, 0, 0, 0), (.getfield 12, 8, 0, 190, 0), (.getfield 46, 3, 1, 101, 0), (.iconst 1, 0, 0, 0, (nI 1)), (.isub, 0, 0, 0, 0)] (pc' := 21) (by decide +kernel) (lv' := [some (.ref 1)]) (st' := [.int ((I 2 1) - (nI 1)), .int ((I 2 0) - (nI 1)), .int (nI 0), .int (nI 0), .ref 1]) (I' := I) (J' := J) rfl ?_
  refine EV_ste (st' := [.int ((nI h) - (nI 1)), .int ((nI w) - (nI 1)), .int ((nI 1) - (nI 1)), .int ((nI 1) - (nI 1)), .ref 1]) (by rw [hw, hh]; rfl) ?_
  refine EV_cV (own := 8) (idx := 69) (μ' := mX8_touchBlock) (b := 1) (cb := 8) (av := [.int ((nI 1) - (nI 1)), .int ((nI 1) - (nI 1)), .int ((nI w) - (nI 1)), .int ((nI h) - (nI 1))]) (rest := []) C hR rfl (Or.inl ⟨357, by decide⟩) kX8_touchBlock sX8_touchBlock (c_X8_touchBlock g rest I J 1 1 w h (by omega) (by omega) (by omega) (by omega) hI) rfl rfl (by decide +kernel) rfl (by decide) (Nat.le_of_ble_eq_true rfl) rfl ⟨Nat.zero_le _, Nat.zero_le _⟩ ?_
  exact EV_vret C hZ rfl (by decide +kernel) (Nat.le_refl _) (Nat.le_refl _) ⟨rfl, rfl, rfl, by simp only [I_X8_touchAll], rfl⟩
theorem fr_X8_touchAll (I : tq_I) (w h : Nat) {cz : Nat} (hc : cz ≠ 16) (jz : Nat) : I_X8_touchAll I w h cz jz = I cz jz := by
  have hc0 := hc
  simp only [I_X8_touchAll]
  (repeat' split) <;> simp (disch := first | assumption | (simp only [ne_eq] at *; simp [*])) [tq_u, tq_cp, hc0, fr_tb1, fr_tb2, fr_X8_touchBlock]
def r_X8_changeCorner (I : tq_I) (x y : Nat) (t : Int32) : Int32 := (if (I 3 (y * 11 + x)) = t then (nI 0) else (nI 1))
def I_X8_changeCorner (I : tq_I) (x y : Nat) (t : Int32) : tq_I := (if (I 3 (y * 11 + x)) = t then I else (I_X8_touchBlock (tq_u I 3 (y * 11 + x) t) x y (x + 1) (y + 1)))
set_option maxRecDepth 20000 in
theorem c_X8_changeCorner (g : tq_G) (rest : List tq_S) (I : tq_I) (J : Int64) (x y : Nat) (t : Int32) (hx : x ≤ 10) (hy : y ≤ 10) (hI : (I 2 0).toInt ≤ 10 ∧ (I 2 1).toInt ≤ 10) : CT g mX8_changeCorner 2 0 0 [.ref 1, .int (nI x), .int (nI y), .int t] (tq_SC ++ rest) tq_RR I J (tq_ret (tq_SC ++ rest) tq_RR (some (.int (r_X8_changeCorner I x y t))) (I_X8_changeCorner I x y t) J) := by
  refine CT.ret kX8_changeCorner (Nat.le_of_ble_eq_true rfl) (fun x0 C hR hZ => ?_)
  refine EV_en (lv' := [some (.ref 1), some (.int (nI x)), some (.int (nI y)), some (.int t)]) 0 rfl ?_
  refine EV_blk (own := 8) C rfl [(.aload_n 0, 0, 0, 0, 0), (.getfield 12, 8, 0, 190, 0), (.iload_n 1, 0, 0, 0, 0), (.iload_n 2, 0, 0, 0, 0)] (pc' := 6) (by decide +kernel) (lv' := [some (.ref 1), some (.int (nI x)), some (.int (nI y)), some (.int t)]) (st' := [.int (nI y), .int (nI x), .ref 2]) (I' := I) (J' := J) rfl ?_
  refine EV_cV (own := 8) (idx := 62) (μ' := mX3_terrainAt) (b := 2) (cb := 3) (av := [.int (nI x), .int (nI y)]) (rest := []) C hR rfl (Or.inl ⟨465, by decide⟩) kX3_terrainAt sX3_terrainAt (c_X3_terrainAt g rest I J x y (by omega) (by omega)) rfl rfl (by decide +kernel) rfl (by decide) (Nat.le_of_ble_eq_true rfl) rfl ⟨Nat.zero_le _, Nat.zero_le _⟩ ?_
  refine EV_blk (own := 8) C rfl [(.iload_n 3, 0, 0, 0, 0)] (pc' := 10) (by decide +kernel) (lv' := [some (.ref 1), some (.int (nI x)), some (.int (nI y)), some (.int t)]) (st' := [.int t, .int (I 3 (y * 11 + x))]) (I' := I) (J' := J) rfl ?_
  refine EV_icmp_ne (off := 5) (tgt := 15) C (by decide +kernel) (by decide) (fun h1 => ?_) (fun h1 => ?_)
  · skip
    refine EV_blk (own := 8) C rfl [(.aload_n 0, 0, 0, 0, 0), (.getfield 12, 8, 0, 190, 0), (.getfield 49, 3, 2, 104, 0), (.iload_n 1, 0, 0, 0, 0), (.iload_n 2, 0, 0, 0, 0)] (pc' := 24) (by decide +kernel) (lv' := [some (.ref 1), some (.int (nI x)), some (.int (nI y)), some (.int t)]) (st' := [.int (nI y), .int (nI x), .ref 3]) (I' := I) (J' := J) rfl ?_
    refine EV_cS (own := 8) (idx := 66) (μ' := mX11_cornerIndex) (av := [.int (nI x), .int (nI y)]) (rest := [.ref 3]) C hR rfl (Or.inr ⟨466, by decide⟩) kX11_cornerIndex sX11_cornerIndex (c_X11_cornerIndex g rest I J x y ) (by decide +kernel) rfl (by decide) (Nat.le_of_ble_eq_true rfl) rfl ⟨Nat.zero_le _, Nat.zero_le _⟩ ?_
    refine EV_blk (own := 8) C rfl [(.iload_n 3, 0, 0, 0, 0)] (pc' := 28) (by decide +kernel) (lv' := [some (.ref 1), some (.int (nI x)), some (.int (nI y)), some (.int t)]) (st' := [.int t, .int (nI (y * 11 + x)), .ref 3]) (I' := I) (J' := J) rfl ?_
    refine EV_iast (j := (y * 11 + x)) C (by decide +kernel) rfl (nI_toInt (by omega)) (by omega) ?_
    refine EV_blk (own := 8) C rfl [(.aload_n 0, 0, 0, 0, 0), (.iload_n 1, 0, 0, 0, 0), (.iconst 1, 0, 0, 0, (nI 1)), (.isub, 0, 0, 0, 0), (.iload_n 2, 0, 0, 0, 0), (.iconst 1, 0, 0, 0, (nI 1)), (.isub, 0, 0, 0, 0), (.iload_n 1, 0, 0, 0, 0), (.iload_n 2, 0, 0, 0, 0)] (pc' := 38) (by decide +kernel) (lv' := [some (.ref 1), some (.int (nI x)), some (.int (nI y)), some (.int t)]) (st' := [.int (nI y), .int (nI x), .int ((nI y) - (nI 1)), .int ((nI x) - (nI 1)), .ref 1]) (I' := (tq_u I 3 (y * 11 + x) t)) (J' := J) rfl ?_
    refine EV_ste (st' := [.int ((nI (y + 1)) - (nI 1)), .int ((nI (x + 1)) - (nI 1)), .int ((nI y) - (nI 1)), .int ((nI x) - (nI 1)), .ref 1]) (by simp only [← tq_dec1]) ?_
    refine EV_cV (own := 8) (idx := 69) (μ' := mX8_touchBlock) (b := 1) (cb := 8) (av := [.int ((nI x) - (nI 1)), .int ((nI y) - (nI 1)), .int ((nI (x + 1)) - (nI 1)), .int ((nI (y + 1)) - (nI 1))]) (rest := []) C hR rfl (Or.inl ⟨357, by decide⟩) kX8_touchBlock sX8_touchBlock (c_X8_touchBlock g rest (tq_u I 3 (y * 11 + x) t) J x y (x + 1) (y + 1) (by omega) (by omega) (by omega) (by omega) hI) rfl rfl (by decide +kernel) rfl (by decide) (Nat.le_of_ble_eq_true rfl) rfl ⟨Nat.zero_le _, Nat.zero_le _⟩ ?_
    refine EV_blk (own := 8) C rfl [(.iconst 1, 0, 0, 0, (nI 1))] (pc' := 42) (by decide +kernel) (lv' := [some (.ref 1), some (.int (nI x)), some (.int (nI y)), some (.int t)]) (st' := [.int (nI 1)]) (I' := (I_X8_touchBlock (tq_u I 3 (y * 11 + x) t) x y (x + 1) (y + 1))) (J' := J) rfl ?_
    exact EV_iret C hZ rfl (by decide +kernel) (Nat.le_refl _) (Nat.le_refl _) ⟨tq_some (by simp only [r_X8_changeCorner, if_neg h1]), rfl, rfl, by simp only [I_X8_changeCorner, if_neg h1], rfl⟩
  · skip
    refine EV_blk (own := 8) C rfl [(.iconst 0, 0, 0, 0, (nI 0))] (pc' := 14) (by decide +kernel) (lv' := [some (.ref 1), some (.int (nI x)), some (.int (nI y)), some (.int t)]) (st' := [.int (nI 0)]) (I' := I) (J' := J) rfl ?_
    exact EV_iret C hZ rfl (by decide +kernel) (Nat.le_refl _) (Nat.le_refl _) ⟨tq_some (by simp only [r_X8_changeCorner, if_pos h1]), rfl, rfl, by simp only [I_X8_changeCorner, if_pos h1], rfl⟩
theorem fr_X8_changeCorner (I : tq_I) (x y : Nat) (t : Int32) {cz : Nat} (hc : cz ≠ 3 ∧ cz ≠ 16) (jz : Nat) : I_X8_changeCorner I x y t cz jz = I cz jz := by
  obtain ⟨hc0, hc1⟩ := hc
  simp only [I_X8_changeCorner]
  (repeat' split) <;> simp (disch := first | assumption | (simp only [ne_eq] at *; simp [*])) [tq_u, tq_cp, hc0, hc1, fr_tb1, fr_tb2, fr_X8_touchBlock, fr_X8_touchAll]
def I_X8_changePath (I : tq_I) (x y : Nat) (v : Int32) : tq_I := (if (I 4 (y * 10 + x)) = v then I else (I_X8_touchBlock (tq_u I 4 (y * 10 + x) v) x y (x + 2) (y + 2)))
set_option maxRecDepth 20000 in
theorem c_X8_changePath (g : tq_G) (rest : List tq_S) (I : tq_I) (J : Int64) (x y : Nat) (v : Int32) (hx : x ≤ 9) (hy : y ≤ 9) (hI : (I 2 0).toInt ≤ 10 ∧ (I 2 1).toInt ≤ 10) : CT g mX8_changePath 2 0 0 [.ref 1, .int (nI x), .int (nI y), .int v] (tq_SC ++ rest) tq_RR I J (tq_ret (tq_SC ++ rest) tq_RR none (I_X8_changePath I x y v) J) := by
  refine CT.ret kX8_changePath (Nat.le_of_ble_eq_true rfl) (fun x0 C hR hZ => ?_)
  refine EV_en (lv' := [some (.ref 1), some (.int (nI x)), some (.int (nI y)), some (.int v)]) 0 rfl ?_
  refine EV_blk (own := 8) C rfl [(.aload_n 0, 0, 0, 0, 0), (.getfield 12, 8, 0, 190, 0), (.iload_n 1, 0, 0, 0, 0), (.iload_n 2, 0, 0, 0, 0)] (pc' := 6) (by decide +kernel) (lv' := [some (.ref 1), some (.int (nI x)), some (.int (nI y)), some (.int v)]) (st' := [.int (nI y), .int (nI x), .ref 2]) (I' := I) (J' := J) rfl ?_
  refine EV_cV (own := 8) (idx := 77) (μ' := mX3_pathAt) (b := 2) (cb := 3) (av := [.int (nI x), .int (nI y)]) (rest := []) C hR rfl (Or.inl ⟨549, by decide⟩) kX3_pathAt sX3_pathAt (c_X3_pathAt g rest I J x y (by omega) (by omega)) rfl rfl (by decide +kernel) rfl (by decide) (Nat.le_of_ble_eq_true rfl) rfl ⟨Nat.zero_le _, Nat.zero_le _⟩ ?_
  refine EV_blk (own := 8) C rfl [(.iload_n 3, 0, 0, 0, 0)] (pc' := 10) (by decide +kernel) (lv' := [some (.ref 1), some (.int (nI x)), some (.int (nI y)), some (.int v)]) (st' := [.int v, .int (I 4 (y * 10 + x))]) (I' := I) (J' := J) rfl ?_
  refine EV_icmp_eq (off := 33) (tgt := 43) C (by decide +kernel) (by decide) (fun h1 => ?_) (fun h1 => ?_)
  · skip
    exact EV_vret C hZ rfl (by decide +kernel) (Nat.le_refl _) (Nat.le_refl _) ⟨rfl, rfl, rfl, by simp only [I_X8_changePath, if_pos h1], rfl⟩
  · skip
    refine EV_blk (own := 8) C rfl [(.aload_n 0, 0, 0, 0, 0), (.getfield 12, 8, 0, 190, 0), (.getfield 53, 3, 3, 107, 0), (.iload_n 1, 0, 0, 0, 0), (.iload_n 2, 0, 0, 0, 0)] (pc' := 22) (by decide +kernel) (lv' := [some (.ref 1), some (.int (nI x)), some (.int (nI y)), some (.int v)]) (st' := [.int (nI y), .int (nI x), .ref 4]) (I' := I) (J' := J) rfl ?_
    refine EV_cS (own := 8) (idx := 80) (μ' := mX11_cellIndex) (av := [.int (nI x), .int (nI y)]) (rest := [.ref 4]) C hR rfl (Or.inr ⟨365, by decide⟩) kX11_cellIndex sX11_cellIndex (c_X11_cellIndex g rest I J x y ) (by decide +kernel) rfl (by decide) (Nat.le_of_ble_eq_true rfl) rfl ⟨Nat.zero_le _, Nat.zero_le _⟩ ?_
    refine EV_blk (own := 8) C rfl [(.iload_n 3, 0, 0, 0, 0)] (pc' := 26) (by decide +kernel) (lv' := [some (.ref 1), some (.int (nI x)), some (.int (nI y)), some (.int v)]) (st' := [.int v, .int (nI (y * 10 + x)), .ref 4]) (I' := I) (J' := J) rfl ?_
    refine EV_iast (j := (y * 10 + x)) C (by decide +kernel) rfl (nI_toInt (by omega)) (by omega) ?_
    refine EV_blk (own := 8) C rfl [(.aload_n 0, 0, 0, 0, 0), (.iload_n 1, 0, 0, 0, 0), (.iconst 1, 0, 0, 0, (nI 1)), (.isub, 0, 0, 0, 0), (.iload_n 2, 0, 0, 0, 0), (.iconst 1, 0, 0, 0, (nI 1)), (.isub, 0, 0, 0, 0), (.iload_n 1, 0, 0, 0, 0), (.iconst 1, 0, 0, 0, (nI 1)), (.iadd, 0, 0, 0, 0), (.iload_n 2, 0, 0, 0, 0), (.iconst 1, 0, 0, 0, (nI 1)), (.iadd, 0, 0, 0, 0)] (pc' := 40) (by decide +kernel) (lv' := [some (.ref 1), some (.int (nI x)), some (.int (nI y)), some (.int v)]) (st' := [.int ((nI y) + (nI 1)), .int ((nI x) + (nI 1)), .int ((nI y) - (nI 1)), .int ((nI x) - (nI 1)), .ref 1]) (I' := (tq_u I 4 (y * 10 + x) v)) (J' := J) rfl ?_
    refine EV_ste (st' := [.int ((nI (y + 2)) - (nI 1)), .int ((nI (x + 2)) - (nI 1)), .int ((nI y) - (nI 1)), .int ((nI x) - (nI 1)), .ref 1]) (by simp only [nI_add, tq_dec1 (y + 1), tq_dec1 (x + 1)]) ?_
    refine EV_cV (own := 8) (idx := 69) (μ' := mX8_touchBlock) (b := 1) (cb := 8) (av := [.int ((nI x) - (nI 1)), .int ((nI y) - (nI 1)), .int ((nI (x + 2)) - (nI 1)), .int ((nI (y + 2)) - (nI 1))]) (rest := []) C hR rfl (Or.inl ⟨357, by decide⟩) kX8_touchBlock sX8_touchBlock (c_X8_touchBlock g rest (tq_u I 4 (y * 10 + x) v) J x y (x + 2) (y + 2) (by omega) (by omega) (by omega) (by omega) hI) rfl rfl (by decide +kernel) rfl (by decide) (Nat.le_of_ble_eq_true rfl) rfl ⟨Nat.zero_le _, Nat.zero_le _⟩ ?_
    exact EV_vret C hZ rfl (by decide +kernel) (Nat.le_refl _) (Nat.le_refl _) ⟨rfl, rfl, rfl, by simp only [I_X8_changePath, if_neg h1], rfl⟩
theorem fr_X8_changePath (I : tq_I) (x y : Nat) (v : Int32) {cz : Nat} (hc : cz ≠ 4 ∧ cz ≠ 16) (jz : Nat) : I_X8_changePath I x y v cz jz = I cz jz := by
  obtain ⟨hc0, hc1⟩ := hc
  simp only [I_X8_changePath]
  (repeat' split) <;> simp (disch := first | assumption | (simp only [ne_eq] at *; simp [*])) [tq_u, tq_cp, hc0, hc1, fr_tb1, fr_tb2, fr_X8_touchBlock, fr_X8_touchAll, fr_X8_changeCorner]
def f_cb1 (l t r b : Nat) (v : Int32) (y : Nat) (i : Nat) (a : Int32 × tq_I) : Int32 × tq_I := ((a.1 + (r_X8_changeCorner a.2 (l + i) y v)), (I_X8_changeCorner a.2 (l + i) y v))
set_option maxRecDepth 20000 in
theorem lp_cb1 {g : tq_G} {rest : List tq_S} {x0 : tq_X} (C : tq_C g mX8_changeBlock x0) (hR : tq_ht x0 3 0 0) (J : Int64) (l t r b : Nat) (v : Int32) (y : Nat) (hl : l ≤ r + 1) (hr : r ≤ 10) (hy : y ≤ 10) : ∀ (n i : Nat) (a : Int32 × tq_I), i + n = r + 1 - l → (a.2 2 0).toInt ≤ 10 ∧ (a.2 2 1).toInt ≤ 10 → EV g mX8_changeBlock x0 0 0 43 [some (.ref 1), some (.int (nI l)), some (.int (nI t)), some (.int (nI r)), some (.int (nI b)), some (.int v), some (.int ((tq_it (f_cb1 l t r b v y) n i a).1)), some (.int (nI y)), some (.int (nI (l + (i + n))))] [] (tq_SC ++ rest) tq_RR ((tq_it (f_cb1 l t r b v y) n i a).2) J → EV g mX8_changeBlock x0 0 0 16 [some (.ref 1), some (.int (nI l)), some (.int (nI t)), some (.int (nI r)), some (.int (nI b)), some (.int v), some (.int a.1), some (.int (nI y)), some (.int (nI (l + i)))] [] (tq_SC ++ rest) tq_RR a.2 J := by
  intro n
  induction n with
  | zero =>
    intro i a hi hI kk
    rw [Nat.add_zero] at kk
    refine EV_blk (own := 8) C rfl [(.iload 8, 0, 0, 0, 0), (.iload_n 3, 0, 0, 0, 0)] (pc' := 19) (by decide +kernel) (lv' := [some (.ref 1), some (.int (nI l)), some (.int (nI t)), some (.int (nI r)), some (.int (nI b)), some (.int v), some (.int a.1), some (.int (nI y)), some (.int (nI (l + i)))]) (st' := [.int (nI r), .int (nI (l + i))]) (I' := a.2) (J' := J) rfl ?_
    refine EV_icmp_gt (off := 24) (tgt := 43) C (by decide +kernel) (by decide) (fun h1 => ?_) (fun h1 => ?_)
    · skip
      exact kk
    · skip
      exact absurd h1 (by simp (disch := omega) only [Int32.lt_iff_toInt_lt, Int32.le_iff_toInt_le, Int32.toInt_zero, nI_toInt, tq_m1]; omega)
  | succ n ih =>
    intro i a hi hI kk
    rw [show i + (n + 1) = (i + 1) + n by omega] at kk
    refine EV_blk (own := 8) C rfl [(.iload 8, 0, 0, 0, 0), (.iload_n 3, 0, 0, 0, 0)] (pc' := 19) (by decide +kernel) (lv' := [some (.ref 1), some (.int (nI l)), some (.int (nI t)), some (.int (nI r)), some (.int (nI b)), some (.int v), some (.int a.1), some (.int (nI y)), some (.int (nI (l + i)))]) (st' := [.int (nI r), .int (nI (l + i))]) (I' := a.2) (J' := J) rfl ?_
    refine EV_icmp_gt (off := 24) (tgt := 43) C (by decide +kernel) (by decide) (fun h1 => ?_) (fun h1 => ?_)
    · skip
      exact absurd h1 (by simp (disch := omega) only [Int32.lt_iff_toInt_lt, Int32.le_iff_toInt_le, Int32.toInt_zero, nI_toInt, tq_m1]; omega)
    · skip
      refine EV_blk (own := 8) C rfl [(.iload 6, 0, 0, 0, 0), (.aload_n 0, 0, 0, 0, 0), (.iload 8, 0, 0, 0, 0), (.iload 7, 0, 0, 0, 0), (.iload 5, 0, 0, 0, 0)] (pc' := 31) (by decide +kernel) (lv' := [some (.ref 1), some (.int (nI l)), some (.int (nI t)), some (.int (nI r)), some (.int (nI b)), some (.int v), some (.int a.1), some (.int (nI y)), some (.int (nI (l + i)))]) (st' := [.int v, .int (nI y), .int (nI (l + i)), .ref 1, .int a.1]) (I' := a.2) (J' := J) rfl ?_
      refine EV_cV (own := 8) (idx := 73) (μ' := mX8_changeCorner) (b := 1) (cb := 8) (av := [.int (nI (l + i)), .int (nI y), .int v]) (rest := [.int a.1]) C hR rfl (Or.inl ⟨485, by decide⟩) kX8_changeCorner sX8_changeCorner (c_X8_changeCorner g rest a.2 J (l + i) y v (by omega) (by omega) hI) rfl rfl (by decide +kernel) rfl (by decide) (Nat.le_of_ble_eq_true rfl) rfl ⟨Nat.zero_le _, Nat.zero_le _⟩ ?_
      refine EV_blk (own := 8) C rfl [(.iadd, 0, 0, 0, 0), (.istore 6, 0, 0, 0, 0), (.iinc 8 1, 0, 0, 0, (nI 1)), (.goto (-24), 0, 0, 0, 0)] (pc' := 16) (by decide +kernel) (lv' := [some (.ref 1), some (.int (nI l)), some (.int (nI t)), some (.int (nI r)), some (.int (nI b)), some (.int v), some (.int (a.1 + (r_X8_changeCorner a.2 (l + i) y v))), some (.int (nI y)), some (.int ((nI (l + i)) + (nI 1)))]) (st' := []) (I' := (I_X8_changeCorner a.2 (l + i) y v)) (J' := J) rfl ?_
      rw [show ((nI (l + i)) + (nI 1)) = (nI (l + (i + 1))) from by simp (disch := omega) only [nI_add, tq_mul] <;> exact congrArg nI (by omega)]
      rw [tq_its, show (f_cb1 l t r b v y) i a = ((a.1 + (r_X8_changeCorner a.2 (l + i) y v)), (I_X8_changeCorner a.2 (l + i) y v)) from by simp only [f_cb1, if_neg h1]] at kk
      exact ih (i + 1) ((a.1 + (r_X8_changeCorner a.2 (l + i) y v)), (I_X8_changeCorner a.2 (l + i) y v)) (by omega) (by simp (disch := decide) only [fr_X8_changeCorner]; exact hI) kk
theorem fr_cb1 (l t r b : Nat) (v : Int32) (y : Nat) {cz : Nat} (hc : cz ≠ 3 ∧ cz ≠ 16) (n i : Nat) (a : Int32 × tq_I) (jz : Nat) : (tq_it (f_cb1 l t r b v y) n i a).2 cz jz = a.2 cz jz := by
  obtain ⟨hc0, hc1⟩ := hc
  refine tq_itF2 (fun i a j => ?_) n i a jz
  simp only [f_cb1]
  (repeat' split) <;> simp (disch := first | assumption | (simp only [ne_eq] at *; simp [*])) [tq_u, tq_cp, hc0, hc1, fr_tb1, fr_tb2, fr_X8_touchBlock, fr_X8_touchAll, fr_X8_changeCorner, fr_X8_changePath]
def f_cb2 (l t r b : Nat) (v : Int32) (i : Nat) (a : Int32 × tq_I) : Int32 × tq_I := ((tq_it (f_cb1 l t r b v (t + i)) (r + 1 - l) 0 (a.1, a.2)).1, (tq_it (f_cb1 l t r b v (t + i)) (r + 1 - l) 0 (a.1, a.2)).2)
set_option maxRecDepth 20000 in
theorem lp_cb2 {g : tq_G} {rest : List tq_S} {x0 : tq_X} (C : tq_C g mX8_changeBlock x0) (hR : tq_ht x0 3 0 0) (J : Int64) (l t r b : Nat) (v : Int32) (hl : l ≤ r + 1) (hr : r ≤ 10) (ht : t ≤ b + 1) (hb : b ≤ 10) : ∀ (n i : Nat) (a : Int32 × tq_I), i + n = b + 1 - t → (a.2 2 0).toInt ≤ 10 ∧ (a.2 2 1).toInt ≤ 10 → EV g mX8_changeBlock x0 0 0 49 [some (.ref 1), some (.int (nI l)), some (.int (nI t)), some (.int (nI r)), some (.int (nI b)), some (.int v), some (.int ((tq_it (f_cb2 l t r b v) n i a).1)), some (.int (nI (t + (i + n)))), none] [] (tq_SC ++ rest) tq_RR ((tq_it (f_cb2 l t r b v) n i a).2) J → EV g mX8_changeBlock x0 0 0 6 [some (.ref 1), some (.int (nI l)), some (.int (nI t)), some (.int (nI r)), some (.int (nI b)), some (.int v), some (.int a.1), some (.int (nI (t + i))), none] [] (tq_SC ++ rest) tq_RR a.2 J := by
  intro n
  induction n with
  | zero =>
    intro i a hi hI kk
    rw [Nat.add_zero] at kk
    refine EV_blk (own := 8) C rfl [(.iload 7, 0, 0, 0, 0), (.iload 4, 0, 0, 0, 0)] (pc' := 10) (by decide +kernel) (lv' := [some (.ref 1), some (.int (nI l)), some (.int (nI t)), some (.int (nI r)), some (.int (nI b)), some (.int v), some (.int a.1), some (.int (nI (t + i))), none]) (st' := [.int (nI b), .int (nI (t + i))]) (I' := a.2) (J' := J) rfl ?_
    refine EV_icmp_gt (off := 39) (tgt := 49) C (by decide +kernel) (by decide) (fun h1 => ?_) (fun h1 => ?_)
    · skip
      exact kk
    · skip
      exact absurd h1 (by simp (disch := omega) only [Int32.lt_iff_toInt_lt, Int32.le_iff_toInt_le, Int32.toInt_zero, nI_toInt, tq_m1]; omega)
  | succ n ih =>
    intro i a hi hI kk
    rw [show i + (n + 1) = (i + 1) + n by omega] at kk
    refine EV_blk (own := 8) C rfl [(.iload 7, 0, 0, 0, 0), (.iload 4, 0, 0, 0, 0)] (pc' := 10) (by decide +kernel) (lv' := [some (.ref 1), some (.int (nI l)), some (.int (nI t)), some (.int (nI r)), some (.int (nI b)), some (.int v), some (.int a.1), some (.int (nI (t + i))), none]) (st' := [.int (nI b), .int (nI (t + i))]) (I' := a.2) (J' := J) rfl ?_
    refine EV_icmp_gt (off := 39) (tgt := 49) C (by decide +kernel) (by decide) (fun h1 => ?_) (fun h1 => ?_)
    · skip
      exact absurd h1 (by simp (disch := omega) only [Int32.lt_iff_toInt_lt, Int32.le_iff_toInt_le, Int32.toInt_zero, nI_toInt, tq_m1]; omega)
    · skip
      refine EV_blk (own := 8) C rfl [(.iload_n 1, 0, 0, 0, 0), (.istore 8, 0, 0, 0, 0)] (pc' := 16) (by decide +kernel) (lv' := [some (.ref 1), some (.int (nI l)), some (.int (nI t)), some (.int (nI r)), some (.int (nI b)), some (.int v), some (.int a.1), some (.int (nI (t + i))), some (.int (nI l))]) (st' := []) (I' := a.2) (J' := J) rfl ?_
      refine lp_cb1 C hR J l t r b v (t + i) hl hr (by omega) (r + 1 - l) 0 (a.1, a.2) (by omega) hI ?_
      refine EV_blk (own := 8) C rfl [(.iinc 7 1, 0, 0, 0, (nI 1)), (.goto (-40), 0, 0, 0, 0)] (pc' := 6) (by decide +kernel) (lv' := [some (.ref 1), some (.int (nI l)), some (.int (nI t)), some (.int (nI r)), some (.int (nI b)), some (.int v), some (.int ((tq_it (f_cb1 l t r b v (t + i)) (r + 1 - l) 0 (a.1, a.2)).1)), some (.int ((nI (t + i)) + (nI 1))), some (.int (nI (l + (0 + (r + 1 - l)))))]) (st' := []) (I' := (tq_it (f_cb1 l t r b v (t + i)) (r + 1 - l) 0 (a.1, a.2)).2) (J' := J) rfl ?_
      refine EV_fg (lv' := [some (.ref 1), some (.int (nI l)), some (.int (nI t)), some (.int (nI r)), some (.int (nI b)), some (.int v), some (.int ((tq_it (f_cb1 l t r b v (t + i)) (r + 1 - l) 0 (a.1, a.2)).1)), some (.int ((nI (t + i)) + (nI 1))), none]) ⟨rfl, rfl, rfl, rfl, rfl, rfl, rfl, rfl, trivial⟩ ?_
      rw [show ((nI (t + i)) + (nI 1)) = (nI (t + (i + 1))) from by simp (disch := omega) only [nI_add, tq_mul] <;> exact congrArg nI (by omega)]
      rw [tq_its, show (f_cb2 l t r b v) i a = ((tq_it (f_cb1 l t r b v (t + i)) (r + 1 - l) 0 (a.1, a.2)).1, (tq_it (f_cb1 l t r b v (t + i)) (r + 1 - l) 0 (a.1, a.2)).2) from by simp only [f_cb2, if_neg h1]] at kk
      exact ih (i + 1) ((tq_it (f_cb1 l t r b v (t + i)) (r + 1 - l) 0 (a.1, a.2)).1, (tq_it (f_cb1 l t r b v (t + i)) (r + 1 - l) 0 (a.1, a.2)).2) (by omega) (by simp (disch := decide) only [fr_cb1]; exact hI) kk
theorem fr_cb2 (l t r b : Nat) (v : Int32) {cz : Nat} (hc : cz ≠ 3 ∧ cz ≠ 16) (n i : Nat) (a : Int32 × tq_I) (jz : Nat) : (tq_it (f_cb2 l t r b v) n i a).2 cz jz = a.2 cz jz := by
  obtain ⟨hc0, hc1⟩ := hc
  refine tq_itF2 (fun i a j => ?_) n i a jz
  simp only [f_cb2]
  (repeat' split) <;> simp (disch := first | assumption | (simp only [ne_eq] at *; simp [*])) [tq_u, tq_cp, hc0, hc1, fr_tb1, fr_tb2, fr_X8_touchBlock, fr_X8_touchAll, fr_X8_changeCorner, fr_X8_changePath, fr_cb1]
def r_X8_changeBlock (I : tq_I) (l t r b : Nat) (v : Int32) : Int32 := (tq_it (f_cb2 l t r b v) (b + 1 - t) 0 ((nI 0), I)).1
def I_X8_changeBlock (I : tq_I) (l t r b : Nat) (v : Int32) : tq_I := (tq_it (f_cb2 l t r b v) (b + 1 - t) 0 ((nI 0), I)).2
set_option maxRecDepth 20000 in
theorem c_X8_changeBlock (g : tq_G) (rest : List tq_S) (I : tq_I) (J : Int64) (l t r b : Nat) (v : Int32) (hl : l ≤ r + 1) (hr : r ≤ 10) (ht : t ≤ b + 1) (hb : b ≤ 10) (hI : (I 2 0).toInt ≤ 10 ∧ (I 2 1).toInt ≤ 10) : CT g mX8_changeBlock 3 0 0 [.ref 1, .int (nI l), .int (nI t), .int (nI r), .int (nI b), .int v] (tq_SC ++ rest) tq_RR I J (tq_ret (tq_SC ++ rest) tq_RR (some (.int (r_X8_changeBlock I l t r b v))) (I_X8_changeBlock I l t r b v) J) := by
  refine CT.ret kX8_changeBlock (Nat.le_of_ble_eq_true rfl) (fun x0 C hR hZ => ?_)
  refine EV_en (lv' := [some (.ref 1), some (.int (nI l)), some (.int (nI t)), some (.int (nI r)), some (.int (nI b)), some (.int v), none, none, none]) 3 rfl ?_
  refine EV_blk (own := 8) C rfl [(.iconst 0, 0, 0, 0, (nI 0)), (.istore 6, 0, 0, 0, 0), (.iload_n 2, 0, 0, 0, 0), (.istore 7, 0, 0, 0, 0)] (pc' := 6) (by decide +kernel) (lv' := [some (.ref 1), some (.int (nI l)), some (.int (nI t)), some (.int (nI r)), some (.int (nI b)), some (.int v), some (.int (nI 0)), some (.int (nI t)), none]) (st' := []) (I' := I) (J' := J) rfl ?_
  refine lp_cb2 C hR J l t r b v hl hr ht hb (b + 1 - t) 0 ((nI 0), I) (by omega) hI ?_
  refine EV_blk (own := 8) C rfl [(.iload 6, 0, 0, 0, 0)] (pc' := 51) (by decide +kernel) (lv' := [some (.ref 1), some (.int (nI l)), some (.int (nI t)), some (.int (nI r)), some (.int (nI b)), some (.int v), some (.int ((tq_it (f_cb2 l t r b v) (b + 1 - t) 0 ((nI 0), I)).1)), some (.int (nI (t + (0 + (b + 1 - t))))), none]) (st' := [.int ((tq_it (f_cb2 l t r b v) (b + 1 - t) 0 ((nI 0), I)).1)]) (I' := (tq_it (f_cb2 l t r b v) (b + 1 - t) 0 ((nI 0), I)).2) (J' := J) rfl ?_
  exact EV_iret C hZ rfl (by decide +kernel) (Nat.le_refl _) (Nat.le_refl _) ⟨tq_some (by simp only [r_X8_changeBlock]), rfl, rfl, by simp only [I_X8_changeBlock], rfl⟩
theorem fr_X8_changeBlock (I : tq_I) (l t r b : Nat) (v : Int32) {cz : Nat} (hc : cz ≠ 3 ∧ cz ≠ 16) (jz : Nat) : I_X8_changeBlock I l t r b v cz jz = I cz jz := by
  obtain ⟨hc0, hc1⟩ := hc
  simp only [I_X8_changeBlock]
  (repeat' split) <;> simp (disch := first | assumption | (simp only [ne_eq] at *; simp [*])) [tq_u, tq_cp, hc0, hc1, fr_tb1, fr_tb2, fr_X8_touchBlock, fr_X8_touchAll, fr_X8_changeCorner, fr_X8_changePath, fr_cb1, fr_cb2]
def f_wipe1  (i : Nat) (a : tq_I) : tq_I := (tq_u (tq_u (tq_u a 13 i (nI 0)) 15 i (-1)) 16 i (nI 0))
set_option maxRecDepth 20000 in
theorem lp_wipe1 {g : tq_G} {rest : List tq_S} {x0 : tq_X} (C : tq_C g mX1_wipe x0) (hR : tq_ht x0 0 0 0) (J : Int64)   : ∀ (n i : Nat) (a : tq_I), i + n = 100 → EV g mX1_wipe x0 0 0 35 [some (.ref 12), some (.int (nI (i + n)))] [] (tq_SC ++ rest) tq_RR (tq_it (f_wipe1) n i a) J → EV g mX1_wipe x0 0 0 2 [some (.ref 12), some (.int (nI i))] [] (tq_SC ++ rest) tq_RR a J := by
  intro n
  induction n with
  | zero =>
    intro i a hi kk
    rw [Nat.add_zero] at kk
    refine EV_blk (own := 1) C rfl [(.iload_n 1, 0, 0, 0, 0), (.bipush 100, 0, 0, 0, (nI 100))] (pc' := 5) (by decide +kernel) (lv' := [some (.ref 12), some (.int (nI i))]) (st' := [.int (nI 100), .int (nI i)]) (I' := a) (J' := J) rfl ?_
    refine EV_icmp_ge (off := 30) (tgt := 35) C (by decide +kernel) (by decide) (fun h1 => ?_) (fun h1 => ?_)
    · skip
      exact kk
    · skip
      exact absurd h1 (by simp (disch := omega) only [Int32.lt_iff_toInt_lt, Int32.le_iff_toInt_le, Int32.toInt_zero, nI_toInt, tq_m1]; omega)
  | succ n ih =>
    intro i a hi kk
    rw [show i + (n + 1) = (i + 1) + n by omega] at kk
    refine EV_blk (own := 1) C rfl [(.iload_n 1, 0, 0, 0, 0), (.bipush 100, 0, 0, 0, (nI 100))] (pc' := 5) (by decide +kernel) (lv' := [some (.ref 12), some (.int (nI i))]) (st' := [.int (nI 100), .int (nI i)]) (I' := a) (J' := J) rfl ?_
    refine EV_icmp_ge (off := 30) (tgt := 35) C (by decide +kernel) (by decide) (fun h1 => ?_) (fun h1 => ?_)
    · skip
      exact absurd h1 (by simp (disch := omega) only [Int32.lt_iff_toInt_lt, Int32.le_iff_toInt_le, Int32.toInt_zero, nI_toInt, tq_m1]; omega)
    · skip
      refine EV_blk (own := 1) C rfl [(.aload_n 0, 0, 0, 0, 0), (.getfield 9, 1, 0, 173, 0), (.iload_n 1, 0, 0, 0, 0), (.iconst 0, 0, 0, 0, (nI 0))] (pc' := 14) (by decide +kernel) (lv' := [some (.ref 12), some (.int (nI i))]) (st' := [.int (nI 0), .int (nI i), .ref 13]) (I' := a) (J' := J) rfl ?_
      refine EV_iast (j := i) C (by decide +kernel) rfl (nI_toInt (by omega)) (by omega) ?_
      refine EV_blk (own := 1) C rfl [(.aload_n 0, 0, 0, 0, 0), (.getfield 18, 1, 2, 177, 0), (.iload_n 1, 0, 0, 0, 0), (.iconst (-1), 0, 0, 0, (-1))] (pc' := 21) (by decide +kernel) (lv' := [some (.ref 12), some (.int (nI i))]) (st' := [.int (-1), .int (nI i), .ref 15]) (I' := (tq_u a 13 i (nI 0))) (J' := J) rfl ?_
      refine EV_iast (j := i) C (by decide +kernel) rfl (nI_toInt (by omega)) (by omega) ?_
      refine EV_blk (own := 1) C rfl [(.aload_n 0, 0, 0, 0, 0), (.getfield 21, 1, 3, 178, 0), (.iload_n 1, 0, 0, 0, 0), (.iconst 0, 0, 0, 0, (nI 0))] (pc' := 28) (by decide +kernel) (lv' := [some (.ref 12), some (.int (nI i))]) (st' := [.int (nI 0), .int (nI i), .ref 16]) (I' := (tq_u (tq_u a 13 i (nI 0)) 15 i (-1))) (J' := J) rfl ?_
      refine EV_iast (j := i) C (by decide +kernel) rfl (nI_toInt (by omega)) (by omega) ?_
      refine EV_blk (own := 1) C rfl [(.iinc 1 1, 0, 0, 0, (nI 1)), (.goto (-30), 0, 0, 0, 0)] (pc' := 2) (by decide +kernel) (lv' := [some (.ref 12), some (.int ((nI i) + (nI 1)))]) (st' := []) (I' := (tq_u (tq_u (tq_u a 13 i (nI 0)) 15 i (-1)) 16 i (nI 0))) (J' := J) rfl ?_
      rw [show ((nI i) + (nI 1)) = (nI (i + 1)) from by simp (disch := omega) only [nI_add, tq_mul] <;> exact congrArg nI (by omega)]
      rw [tq_its, show (f_wipe1) i a = (tq_u (tq_u (tq_u a 13 i (nI 0)) 15 i (-1)) 16 i (nI 0)) from by simp only [f_wipe1, if_neg h1]] at kk
      exact ih (i + 1) (tq_u (tq_u (tq_u a 13 i (nI 0)) 15 i (-1)) 16 i (nI 0)) (by omega) kk
theorem fr_wipe1  {cz : Nat} (hc : cz ≠ 13 ∧ cz ≠ 15 ∧ cz ≠ 16) (n i : Nat) (a : tq_I) (jz : Nat) : (tq_it (f_wipe1) n i a) cz jz = a cz jz := by
  obtain ⟨hc0, hc1, hc2⟩ := hc
  refine tq_itF (fun i a j => ?_) n i a jz
  simp only [f_wipe1]
  (repeat' split) <;> simp (disch := first | assumption | (simp only [ne_eq] at *; simp [*])) [tq_u, tq_cp, hc0, hc1, hc2, fr_tb1, fr_tb2, fr_X8_touchBlock, fr_X8_touchAll, fr_X8_changeCorner, fr_X8_changePath, fr_cb1, fr_cb2, fr_X8_changeBlock]
def I_X1_wipe (I : tq_I)  : tq_I := (tq_it (f_wipe1) 100 0 I)
set_option maxRecDepth 20000 in
theorem c_X1_wipe (g : tq_G) (rest : List tq_S) (I : tq_I) (J : Int64)   : CT g mX1_wipe 0 0 0 [.ref 12] (tq_SC ++ rest) tq_RR I J (tq_ret (tq_SC ++ rest) tq_RR none (I_X1_wipe I) J) := by
  refine CT.ret kX1_wipe (Nat.le_of_ble_eq_true rfl) (fun x0 C hR hZ => ?_)
  refine EV_en (lv' := [some (.ref 12), none]) 1 rfl ?_
  refine EV_blk (own := 1) C rfl [(.iconst 0, 0, 0, 0, (nI 0)), (.istore_n 1, 0, 0, 0, 0)] (pc' := 2) (by decide +kernel) (lv' := [some (.ref 12), some (.int (nI 0))]) (st' := []) (I' := I) (J' := J) rfl ?_
  refine lp_wipe1 C hR J  100 0 I (by omega) ?_
  exact EV_vret C hZ rfl (by decide +kernel) (Nat.le_refl _) (Nat.le_refl _) ⟨rfl, rfl, rfl, by simp only [I_X1_wipe], rfl⟩
theorem fr_X1_wipe (I : tq_I)  {cz : Nat} (hc : cz ≠ 13 ∧ cz ≠ 15 ∧ cz ≠ 16) (jz : Nat) : I_X1_wipe I  cz jz = I cz jz := by
  obtain ⟨hc0, hc1, hc2⟩ := hc
  simp only [I_X1_wipe]
  (repeat' split) <;> simp (disch := first | assumption | (simp only [ne_eq] at *; simp [*])) [tq_u, tq_cp, hc0, hc1, hc2, fr_tb1, fr_tb2, fr_X8_touchBlock, fr_X8_touchAll, fr_X8_changeCorner, fr_X8_changePath, fr_cb1, fr_cb2, fr_X8_changeBlock, fr_wipe1]
set_option maxRecDepth 20000 in
theorem c_X1_codeAt (g : tq_G) (rest : List tq_S) (I : tq_I) (J : Int64) (c k : Nat) (hc : c ≤ 99) (hk : k < 7) : CT g mX1_codeAt 0 0 0 [.ref 12, .int (nI c), .int (nI k)] (tq_SC ++ rest) tq_RR I J (tq_ret (tq_SC ++ rest) tq_RR (some (.int (I 14 (c * 7 + k)))) I J) := by
  refine CT.ret kX1_codeAt (Nat.le_of_ble_eq_true rfl) (fun x0 C hR hZ => ?_)
  refine EV_en (lv' := [some (.ref 12), some (.int (nI c)), some (.int (nI k))]) 0 rfl ?_
  refine EV_blk (own := 1) C rfl [(.aload_n 0, 0, 0, 0, 0), (.getfield 15, 1, 1, 176, 0), (.iload_n 1, 0, 0, 0, 0), (.bipush 7, 0, 0, 0, (nI 7)), (.imul, 0, 0, 0, 0), (.iload_n 2, 0, 0, 0, 0), (.iadd, 0, 0, 0, 0)] (pc' := 10) (by decide +kernel) (lv' := [some (.ref 12), some (.int (nI c)), some (.int (nI k))]) (st' := [.int (((nI c) * (nI 7)) + (nI k)), .ref 14]) (I' := I) (J' := J) rfl ?_
  refine EV_iald (j := ((c * 7) + k)) C (by decide +kernel) rfl (tq_toI ((c * 7) + k) (by simp (disch := omega) only [nI_add, tq_mul, tq_rem_nI, tq_div_nI, tq_sub_nI]) (by omega)) (by omega) ?_
  exact EV_iret C hZ rfl (by decide +kernel) (Nat.le_refl _) (Nat.le_refl _) ⟨rfl, rfl, rfl, rfl, rfl⟩
def f_sm1 (w h : Nat) (t : Int32) (i : Nat) (a : tq_I) : tq_I := (tq_u a 3 i t)
set_option maxRecDepth 20000 in
theorem lp_sm1 {g : tq_G} {rest : List tq_S} {x0 : tq_X} (C : tq_C g mX8_startMap x0) (hR : tq_ht x0 3 0 0) (J : Int64) (w h : Nat) (t : Int32)  : ∀ (n i : Nat) (a : tq_I), i + n = 121 → EV g mX8_startMap x0 0 0 43 [some (.ref 1), some (.int (nI w)), some (.int (nI h)), some (.int t), some (.int (nI (i + n)))] [] (tq_SC ++ rest) tq_RR (tq_it (f_sm1 w h t) n i a) J → EV g mX8_startMap x0 0 0 19 [some (.ref 1), some (.int (nI w)), some (.int (nI h)), some (.int t), some (.int (nI i))] [] (tq_SC ++ rest) tq_RR a J := by
  intro n
  induction n with
  | zero =>
    intro i a hi kk
    rw [Nat.add_zero] at kk
    refine EV_blk (own := 8) C rfl [(.iload 4, 0, 0, 0, 0), (.bipush 121, 0, 0, 0, (nI 121))] (pc' := 23) (by decide +kernel) (lv' := [some (.ref 1), some (.int (nI w)), some (.int (nI h)), some (.int t), some (.int (nI i))]) (st' := [.int (nI 121), .int (nI i)]) (I' := a) (J' := J) rfl ?_
    refine EV_icmp_ge (off := 20) (tgt := 43) C (by decide +kernel) (by decide) (fun h1 => ?_) (fun h1 => ?_)
    · skip
      exact kk
    · skip
      exact absurd h1 (by simp (disch := omega) only [Int32.lt_iff_toInt_lt, Int32.le_iff_toInt_le, Int32.toInt_zero, nI_toInt, tq_m1]; omega)
  | succ n ih =>
    intro i a hi kk
    rw [show i + (n + 1) = (i + 1) + n by omega] at kk
    refine EV_blk (own := 8) C rfl [(.iload 4, 0, 0, 0, 0), (.bipush 121, 0, 0, 0, (nI 121))] (pc' := 23) (by decide +kernel) (lv' := [some (.ref 1), some (.int (nI w)), some (.int (nI h)), some (.int t), some (.int (nI i))]) (st' := [.int (nI 121), .int (nI i)]) (I' := a) (J' := J) rfl ?_
    refine EV_icmp_ge (off := 20) (tgt := 43) C (by decide +kernel) (by decide) (fun h1 => ?_) (fun h1 => ?_)
    · skip
      exact absurd h1 (by simp (disch := omega) only [Int32.lt_iff_toInt_lt, Int32.le_iff_toInt_le, Int32.toInt_zero, nI_toInt, tq_m1]; omega)
    · skip
      refine EV_blk (own := 8) C rfl [(.aload_n 0, 0, 0, 0, 0), (.getfield 12, 8, 0, 190, 0), (.getfield 49, 3, 2, 104, 0), (.iload 4, 0, 0, 0, 0), (.iload_n 3, 0, 0, 0, 0)] (pc' := 36) (by decide +kernel) (lv' := [some (.ref 1), some (.int (nI w)), some (.int (nI h)), some (.int t), some (.int (nI i))]) (st' := [.int t, .int (nI i), .ref 3]) (I' := a) (J' := J) rfl ?_
      refine EV_iast (j := i) C (by decide +kernel) rfl (nI_toInt (by omega)) (by omega) ?_
      refine EV_blk (own := 8) C rfl [(.iinc 4 1, 0, 0, 0, (nI 1)), (.goto (-21), 0, 0, 0, 0)] (pc' := 19) (by decide +kernel) (lv' := [some (.ref 1), some (.int (nI w)), some (.int (nI h)), some (.int t), some (.int ((nI i) + (nI 1)))]) (st' := []) (I' := (tq_u a 3 i t)) (J' := J) rfl ?_
      rw [show ((nI i) + (nI 1)) = (nI (i + 1)) from by simp (disch := omega) only [nI_add, tq_mul] <;> exact congrArg nI (by omega)]
      rw [tq_its, show (f_sm1 w h t) i a = (tq_u a 3 i t) from by simp only [f_sm1, if_neg h1]] at kk
      exact ih (i + 1) (tq_u a 3 i t) (by omega) kk
theorem fr_sm1 (w h : Nat) (t : Int32) {cz : Nat} (hc : cz ≠ 3) (n i : Nat) (a : tq_I) (jz : Nat) : (tq_it (f_sm1 w h t) n i a) cz jz = a cz jz := by
  have hc0 := hc
  refine tq_itF (fun i a j => ?_) n i a jz
  simp only [f_sm1]
  (repeat' split) <;> simp (disch := first | assumption | (simp only [ne_eq] at *; simp [*])) [tq_u, tq_cp, hc0, fr_tb1, fr_tb2, fr_X8_touchBlock, fr_X8_touchAll, fr_X8_changeCorner, fr_X8_changePath, fr_cb1, fr_cb2, fr_X8_changeBlock, fr_wipe1, fr_X1_wipe]
def f_sm2 (w h : Nat) (t : Int32) (i : Nat) (a : tq_I) : tq_I := (tq_u a 4 i (nI 0))
set_option maxRecDepth 20000 in
theorem lp_sm2 {g : tq_G} {rest : List tq_S} {x0 : tq_X} (C : tq_C g mX8_startMap x0) (hR : tq_ht x0 3 0 0) (J : Int64) (w h : Nat) (t : Int32)  : ∀ (n i : Nat) (a : tq_I), i + n = 100 → EV g mX8_startMap x0 0 0 70 [some (.ref 1), some (.int (nI w)), some (.int (nI h)), some (.int t), some (.int (nI (i + n)))] [] (tq_SC ++ rest) tq_RR (tq_it (f_sm2 w h t) n i a) J → EV g mX8_startMap x0 0 0 46 [some (.ref 1), some (.int (nI w)), some (.int (nI h)), some (.int t), some (.int (nI i))] [] (tq_SC ++ rest) tq_RR a J := by
  intro n
  induction n with
  | zero =>
    intro i a hi kk
    rw [Nat.add_zero] at kk
    refine EV_blk (own := 8) C rfl [(.iload 4, 0, 0, 0, 0), (.bipush 100, 0, 0, 0, (nI 100))] (pc' := 50) (by decide +kernel) (lv' := [some (.ref 1), some (.int (nI w)), some (.int (nI h)), some (.int t), some (.int (nI i))]) (st' := [.int (nI 100), .int (nI i)]) (I' := a) (J' := J) rfl ?_
    refine EV_icmp_ge (off := 20) (tgt := 70) C (by decide +kernel) (by decide) (fun h1 => ?_) (fun h1 => ?_)
    · skip
      exact kk
    · skip
      exact absurd h1 (by simp (disch := omega) only [Int32.lt_iff_toInt_lt, Int32.le_iff_toInt_le, Int32.toInt_zero, nI_toInt, tq_m1]; omega)
  | succ n ih =>
    intro i a hi kk
    rw [show i + (n + 1) = (i + 1) + n by omega] at kk
    refine EV_blk (own := 8) C rfl [(.iload 4, 0, 0, 0, 0), (.bipush 100, 0, 0, 0, (nI 100))] (pc' := 50) (by decide +kernel) (lv' := [some (.ref 1), some (.int (nI w)), some (.int (nI h)), some (.int t), some (.int (nI i))]) (st' := [.int (nI 100), .int (nI i)]) (I' := a) (J' := J) rfl ?_
    refine EV_icmp_ge (off := 20) (tgt := 70) C (by decide +kernel) (by decide) (fun h1 => ?_) (fun h1 => ?_)
    · skip
      exact absurd h1 (by simp (disch := omega) only [Int32.lt_iff_toInt_lt, Int32.le_iff_toInt_le, Int32.toInt_zero, nI_toInt, tq_m1]; omega)
    · skip
      refine EV_blk (own := 8) C rfl [(.aload_n 0, 0, 0, 0, 0), (.getfield 12, 8, 0, 190, 0), (.getfield 53, 3, 3, 107, 0), (.iload 4, 0, 0, 0, 0), (.iconst 0, 0, 0, 0, (nI 0))] (pc' := 63) (by decide +kernel) (lv' := [some (.ref 1), some (.int (nI w)), some (.int (nI h)), some (.int t), some (.int (nI i))]) (st' := [.int (nI 0), .int (nI i), .ref 4]) (I' := a) (J' := J) rfl ?_
      refine EV_iast (j := i) C (by decide +kernel) rfl (nI_toInt (by omega)) (by omega) ?_
      refine EV_blk (own := 8) C rfl [(.iinc 4 1, 0, 0, 0, (nI 1)), (.goto (-21), 0, 0, 0, 0)] (pc' := 46) (by decide +kernel) (lv' := [some (.ref 1), some (.int (nI w)), some (.int (nI h)), some (.int t), some (.int ((nI i) + (nI 1)))]) (st' := []) (I' := (tq_u a 4 i (nI 0))) (J' := J) rfl ?_
      rw [show ((nI i) + (nI 1)) = (nI (i + 1)) from by simp (disch := omega) only [nI_add, tq_mul] <;> exact congrArg nI (by omega)]
      rw [tq_its, show (f_sm2 w h t) i a = (tq_u a 4 i (nI 0)) from by simp only [f_sm2, if_neg h1]] at kk
      exact ih (i + 1) (tq_u a 4 i (nI 0)) (by omega) kk
theorem fr_sm2 (w h : Nat) (t : Int32) {cz : Nat} (hc : cz ≠ 4) (n i : Nat) (a : tq_I) (jz : Nat) : (tq_it (f_sm2 w h t) n i a) cz jz = a cz jz := by
  have hc0 := hc
  refine tq_itF (fun i a j => ?_) n i a jz
  simp only [f_sm2]
  (repeat' split) <;> simp (disch := first | assumption | (simp only [ne_eq] at *; simp [*])) [tq_u, tq_cp, hc0, fr_tb1, fr_tb2, fr_X8_touchBlock, fr_X8_touchAll, fr_X8_changeCorner, fr_X8_changePath, fr_cb1, fr_cb2, fr_X8_changeBlock, fr_wipe1, fr_X1_wipe, fr_sm1]
def I_X8_startMap (I : tq_I) (w h : Nat) (t : Int32) : tq_I := (I_X8_touchAll (I_X1_wipe (tq_it (f_sm2 w h t) 100 0 (tq_it (f_sm1 w h t) 121 0 (tq_u (tq_u I 2 0 (nI w)) 2 1 (nI h))))) w h)
set_option maxRecDepth 20000 in
theorem c_X8_startMap (g : tq_G) (rest : List tq_S) (I : tq_I) (J : Int64) (w h : Nat) (t : Int32) (hw10 : w ≤ 10) (hh10 : h ≤ 10) : CT g mX8_startMap 3 0 0 [.ref 1, .int (nI w), .int (nI h), .int t] (tq_SC ++ rest) tq_RR I J (tq_ret (tq_SC ++ rest) tq_RR none (I_X8_startMap I w h t) J) := by
  refine CT.ret kX8_startMap (Nat.le_of_ble_eq_true rfl) (fun x0 C hR hZ => ?_)
  refine EV_en (lv' := [some (.ref 1), some (.int (nI w)), some (.int (nI h)), some (.int t), none]) 1 rfl ?_
  refine EV_blk (own := 8) C rfl [(.aload_n 0, 0, 0, 0, 0), (.getfield 12, 8, 0, 190, 0), (.iload_n 1, 0, 0, 0, 0), (.putfield 42, 3, 0, 97, 0), (.aload_n 0, 0, 0, 0, 0), (.getfield 12, 8, 0, 190, 0), (.iload_n 2, 0, 0, 0, 0), (.putfield 46, 3, 1, 101, 0), (.iconst 0, 0, 0, 0, (nI 0)), (.istore 4, 0, 0, 0, 0)] (pc' := 19) (by decide +kernel) (lv' := [some (.ref 1), some (.int (nI w)), some (.int (nI h)), some (.int t), some (.int (nI 0))]) (st' := []) (I' := (tq_u (tq_u I 2 0 (nI w)) 2 1 (nI h))) (J' := J) rfl ?_
  refine lp_sm1 C hR J w h t  121 0 (tq_u (tq_u I 2 0 (nI w)) 2 1 (nI h)) (by omega) ?_
  refine EV_blk (own := 8) C rfl [(.iconst 0, 0, 0, 0, (nI 0)), (.istore 4, 0, 0, 0, 0)] (pc' := 46) (by decide +kernel) (lv' := [some (.ref 1), some (.int (nI w)), some (.int (nI h)), some (.int t), some (.int (nI 0))]) (st' := []) (I' := (tq_it (f_sm1 w h t) 121 0 (tq_u (tq_u I 2 0 (nI w)) 2 1 (nI h)))) (J' := J) rfl ?_
  refine lp_sm2 C hR J w h t  100 0 (tq_it (f_sm1 w h t) 121 0 (tq_u (tq_u I 2 0 (nI w)) 2 1 (nI h))) (by omega) ?_
  refine EV_blk (own := 8) C rfl [(.aload_n 0, 0, 0, 0, 0), (.getfield 28, 8, 2, 197, 0)] (pc' := 74) (by decide +kernel) (lv' := [some (.ref 1), some (.int (nI w)), some (.int (nI h)), some (.int t), some (.int (nI ((0 + 100))))]) (st' := [.ref 12]) (I' := (tq_it (f_sm2 w h t) 100 0 (tq_it (f_sm1 w h t) 121 0 (tq_u (tq_u I 2 0 (nI w)) 2 1 (nI h))))) (J' := J) rfl ?_
  refine EV_cV (own := 8) (idx := 56) (μ' := mX1_wipe) (b := 12) (cb := 1) (av := []) (rest := []) C hR rfl (Or.inl ⟨349, by decide⟩) kX1_wipe sX1_wipe (c_X1_wipe g rest (tq_it (f_sm2 w h t) 100 0 (tq_it (f_sm1 w h t) 121 0 (tq_u (tq_u I 2 0 (nI w)) 2 1 (nI h)))) J  ) rfl rfl (by decide +kernel) rfl (by decide) (Nat.le_of_ble_eq_true rfl) rfl ⟨Nat.zero_le _, Nat.zero_le _⟩ ?_
  refine EV_blk (own := 8) C rfl [(.aload_n 0, 0, 0, 0, 0)] (pc' := 78) (by decide +kernel) (lv' := [some (.ref 1), some (.int (nI w)), some (.int (nI h)), some (.int t), some (.int (nI ((0 + 100))))]) (st' := [.ref 1]) (I' := (I_X1_wipe (tq_it (f_sm2 w h t) 100 0 (tq_it (f_sm1 w h t) 121 0 (tq_u (tq_u I 2 0 (nI w)) 2 1 (nI h)))))) (J' := J) rfl ?_
  refine EV_cV (own := 8) (idx := 59) (μ' := mX8_touchAll) (b := 1) (cb := 8) (av := []) (rest := []) C hR rfl (Or.inl ⟨353, by decide⟩) kX8_touchAll sX8_touchAll (c_X8_touchAll g rest (I_X1_wipe (tq_it (f_sm2 w h t) 100 0 (tq_it (f_sm1 w h t) 121 0 (tq_u (tq_u I 2 0 (nI w)) 2 1 (nI h))))) J w h (by simp (disch := decide) only [fr_X1_wipe, fr_sm1, fr_sm2]; simp [tq_u]) (by simp (disch := decide) only [fr_X1_wipe, fr_sm1, fr_sm2]; simp [tq_u]) hw10 hh10) rfl rfl (by decide +kernel) rfl (by decide) (Nat.le_of_ble_eq_true rfl) rfl ⟨Nat.zero_le _, Nat.zero_le _⟩ ?_
  exact EV_vret C hZ rfl (by decide +kernel) (Nat.le_refl _) (Nat.le_refl _) ⟨rfl, rfl, rfl, by simp only [I_X8_startMap], rfl⟩
theorem fr_X8_startMap (I : tq_I) (w h : Nat) (t : Int32) {cz : Nat} (hc : cz ≠ 2 ∧ cz ≠ 3 ∧ cz ≠ 4 ∧ cz ≠ 13 ∧ cz ≠ 15 ∧ cz ≠ 16) (jz : Nat) : I_X8_startMap I w h t cz jz = I cz jz := by
  obtain ⟨hc0, hc1, hc2, hc3, hc4, hc5⟩ := hc
  simp only [I_X8_startMap]
  (repeat' split) <;> simp (disch := first | assumption | (simp only [ne_eq] at *; simp [*])) [tq_u, tq_cp, hc0, hc1, hc2, hc3, hc4, hc5, fr_tb1, fr_tb2, fr_X8_touchBlock, fr_X8_touchAll, fr_X8_changeCorner, fr_X8_changePath, fr_cb1, fr_cb2, fr_X8_changeBlock, fr_wipe1, fr_X1_wipe, fr_sm1, fr_sm2]
