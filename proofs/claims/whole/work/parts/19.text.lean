/-! the texts: 111 (length 1) with 112, 113 with 114; the reader 115 (row 1, column 2, rowLength 3, number 4), its terrains 116 -/
/-- rounds of a loop that may answer, or end and answer d -/
def tq_wr {α ρ : Type} (f : α → α ⊕ ρ ⊕ Unit) (d : α → ρ) : Nat → α → ρ
  | 0, a => d a
  | n + 1, a => match f a with
    | .inl b => tq_wr f d n b
    | .inr (.inl r) => r
    | .inr (.inr _) => d a
theorem tq_wr_c {α ρ : Type} {f : α → α ⊕ ρ ⊕ Unit} {d : α → ρ} {n : Nat} {a b : α} (h : f a = .inl b) : tq_wr f d (n + 1) a = tq_wr f d n b := by simp only [tq_wr, h]
theorem tq_wr_r {α ρ : Type} {f : α → α ⊕ ρ ⊕ Unit} {d : α → ρ} {n : Nat} {a : α} {r : ρ} (h : f a = .inr (.inl r)) : tq_wr f d (n + 1) a = r := by simp only [tq_wr, h]
theorem tq_wr_x {α ρ : Type} {f : α → α ⊕ ρ ⊕ Unit} {d : α → ρ} {n : Nat} {a : α} (h : f a = .inr (.inr ())) : tq_wr f d (n + 1) a = d a := by simp only [tq_wr, h]
def I_append111 (I : tq_I) (c : Int32) : tq_I := (if (nI 150) ≤ (I 111 1) then I else (tq_u (tq_u I 112 (tq_N (I 111 1)) c) 111 1 (((tq_u I 112 (tq_N (I 111 1)) c) 111 1) + (nI 1))))
set_option maxRecDepth 20000 in
theorem c_append111 (g : tq_G) (rest : List tq_S) (I : tq_I) (J : Int64) (c : Int32) (hl0 : 0 ≤ (I 111 1).toInt) : CT g mX0_append 0 0 0 [.ref 111, .int c] (tq_SC ++ rest) tq_RR I J (tq_ret (tq_SC ++ rest) tq_RR none (I_append111 I c) J) := by
  refine CT.ret kX0_append (Nat.le_of_ble_eq_true rfl) (fun x0 C hR hZ => ?_)
  refine EV_en (lv' := [some (.ref 111), some (.int c)]) 0 rfl ?_
  refine EV_blk (own := 0) C rfl [(.aload_n 0, 0, 0, 0, 0), (.getfield 13, 0, 1, 312, 0), (.sipush 150, 0, 0, 0, (nI 150))] (pc' := 7) (by decide +kernel) (lv' := [some (.ref 111), some (.int c)]) (st' := [.int (nI 150), .int (I 111 1)]) (I' := I) (J' := J) rfl ?_
  refine EV_icmp_ge (off := 23) (tgt := 30) C (by decide +kernel) (by decide) (fun h1 => ?_) (fun h1 => ?_)
  · skip
    exact EV_vret C hZ rfl (by decide +kernel) (Nat.le_refl _) (Nat.le_refl _) ⟨rfl, rfl, rfl, by simp only [I_append111, if_pos h1], rfl⟩
  · skip
    refine EV_blk (own := 0) C rfl [(.aload_n 0, 0, 0, 0, 0), (.getfield 9, 0, 0, 309, 0), (.aload_n 0, 0, 0, 0, 0), (.getfield 13, 0, 1, 312, 0), (.iload_n 1, 0, 0, 0, 0)] (pc' := 19) (by decide +kernel) (lv' := [some (.ref 111), some (.int c)]) (st' := [.int c, .int (I 111 1), .ref 112]) (I' := I) (J' := J) rfl ?_
    have hl : ¬ (nI 150) ≤ I 111 1 := h1
    simp (disch := omega) only [Int32.le_iff_toInt_le, nI_toInt] at hl
    refine EV_iast (j := (tq_N (I 111 1))) C (by decide +kernel) rfl (tq_NI hl0) (tq_Nlt hl0 (by omega)) ?_
    refine EV_blk (own := 0) C rfl [(.aload_n 0, 0, 0, 0, 0), (.dup, 0, 0, 0, 0), (.getfield 13, 0, 1, 312, 0), (.iconst 1, 0, 0, 0, (nI 1)), (.iadd, 0, 0, 0, 0), (.putfield 13, 0, 1, 312, 0)] (pc' := 30) (by decide +kernel) (lv' := [some (.ref 111), some (.int c)]) (st' := []) (I' := (tq_u (tq_u I 112 (tq_N (I 111 1)) c) 111 1 (((tq_u I 112 (tq_N (I 111 1)) c) 111 1) + (nI 1)))) (J' := J) rfl ?_
    exact EV_vret C hZ rfl (by decide +kernel) (Nat.le_refl _) (Nat.le_refl _) ⟨rfl, rfl, rfl, by simp only [I_append111, if_neg h1], rfl⟩
theorem fr_append111 (I : tq_I) (c : Int32) {cz : Nat} (hc : cz ≠ 111 ∧ cz ≠ 112) (jz : Nat) : I_append111 I c cz jz = I cz jz := by
  obtain ⟨hc0, hc1⟩ := hc
  simp only [I_append111]
  (repeat' split) <;> simp (disch := first | assumption | (simp only [ne_eq] at *; simp [*])) [tq_u, tq_cp, hc0, hc1, fr_tb1, fr_tb2, fr_X8_touchBlock, fr_X8_touchAll, fr_X8_changeCorner, fr_X8_changePath, fr_cb1, fr_cb2, fr_X8_changeBlock, fr_wipe1, fr_X1_wipe, fr_sm1, fr_sm2, fr_X8_startMap, fr_X6_place, fr_mt1, fr_mt2, fr_X6_moveTo, fr_ch2, fr_X10_choose, fr_X1_take, fr_fgt1, fr_X5_forget, fr_X5_meet, fr_gat1, fr_X5_gather, fr_dl1, fr_dl2, fr_X7_drawLayers, fr_dp1, fr_X7_drawPieces, fr_dr1, fr_X7_draw, fr_X9_add, fr_ac1, fr_X9_addCell, fr_tk0, fr_tk1, fr_tk2, fr_X9_take]
def I_append113 (I : tq_I) (c : Int32) : tq_I := (if (nI 150) ≤ (I 113 1) then I else (tq_u (tq_u I 114 (tq_N (I 113 1)) c) 113 1 (((tq_u I 114 (tq_N (I 113 1)) c) 113 1) + (nI 1))))
set_option maxRecDepth 20000 in
theorem c_append113 (g : tq_G) (rest : List tq_S) (I : tq_I) (J : Int64) (c : Int32) (hl0 : 0 ≤ (I 113 1).toInt) : CT g mX0_append 0 0 0 [.ref 113, .int c] (tq_SC ++ rest) tq_RR I J (tq_ret (tq_SC ++ rest) tq_RR none (I_append113 I c) J) := by
  refine CT.ret kX0_append (Nat.le_of_ble_eq_true rfl) (fun x0 C hR hZ => ?_)
  refine EV_en (lv' := [some (.ref 113), some (.int c)]) 0 rfl ?_
  refine EV_blk (own := 0) C rfl [(.aload_n 0, 0, 0, 0, 0), (.getfield 13, 0, 1, 312, 0), (.sipush 150, 0, 0, 0, (nI 150))] (pc' := 7) (by decide +kernel) (lv' := [some (.ref 113), some (.int c)]) (st' := [.int (nI 150), .int (I 113 1)]) (I' := I) (J' := J) rfl ?_
  refine EV_icmp_ge (off := 23) (tgt := 30) C (by decide +kernel) (by decide) (fun h1 => ?_) (fun h1 => ?_)
  · skip
    exact EV_vret C hZ rfl (by decide +kernel) (Nat.le_refl _) (Nat.le_refl _) ⟨rfl, rfl, rfl, by simp only [I_append113, if_pos h1], rfl⟩
  · skip
    refine EV_blk (own := 0) C rfl [(.aload_n 0, 0, 0, 0, 0), (.getfield 9, 0, 0, 309, 0), (.aload_n 0, 0, 0, 0, 0), (.getfield 13, 0, 1, 312, 0), (.iload_n 1, 0, 0, 0, 0)] (pc' := 19) (by decide +kernel) (lv' := [some (.ref 113), some (.int c)]) (st' := [.int c, .int (I 113 1), .ref 114]) (I' := I) (J' := J) rfl ?_
    have hl : ¬ (nI 150) ≤ I 113 1 := h1
    simp (disch := omega) only [Int32.le_iff_toInt_le, nI_toInt] at hl
    refine EV_iast (j := (tq_N (I 113 1))) C (by decide +kernel) rfl (tq_NI hl0) (tq_Nlt hl0 (by omega)) ?_
    refine EV_blk (own := 0) C rfl [(.aload_n 0, 0, 0, 0, 0), (.dup, 0, 0, 0, 0), (.getfield 13, 0, 1, 312, 0), (.iconst 1, 0, 0, 0, (nI 1)), (.iadd, 0, 0, 0, 0), (.putfield 13, 0, 1, 312, 0)] (pc' := 30) (by decide +kernel) (lv' := [some (.ref 113), some (.int c)]) (st' := []) (I' := (tq_u (tq_u I 114 (tq_N (I 113 1)) c) 113 1 (((tq_u I 114 (tq_N (I 113 1)) c) 113 1) + (nI 1)))) (J' := J) rfl ?_
    exact EV_vret C hZ rfl (by decide +kernel) (Nat.le_refl _) (Nat.le_refl _) ⟨rfl, rfl, rfl, by simp only [I_append113, if_neg h1], rfl⟩
theorem fr_append113 (I : tq_I) (c : Int32) {cz : Nat} (hc : cz ≠ 113 ∧ cz ≠ 114) (jz : Nat) : I_append113 I c cz jz = I cz jz := by
  obtain ⟨hc0, hc1⟩ := hc
  simp only [I_append113]
  (repeat' split) <;> simp (disch := first | assumption | (simp only [ne_eq] at *; simp [*])) [tq_u, tq_cp, hc0, hc1, fr_tb1, fr_tb2, fr_X8_touchBlock, fr_X8_touchAll, fr_X8_changeCorner, fr_X8_changePath, fr_cb1, fr_cb2, fr_X8_changeBlock, fr_wipe1, fr_X1_wipe, fr_sm1, fr_sm2, fr_X8_startMap, fr_X6_place, fr_mt1, fr_mt2, fr_X6_moveTo, fr_ch2, fr_X10_choose, fr_X1_take, fr_fgt1, fr_X5_forget, fr_X5_meet, fr_gat1, fr_X5_gather, fr_dl1, fr_dl2, fr_X7_drawLayers, fr_dp1, fr_X7_drawPieces, fr_dr1, fr_X7_draw, fr_X9_add, fr_ac1, fr_X9_addCell, fr_tk0, fr_tk1, fr_tk2, fr_X9_take, fr_append111]
set_option maxRecDepth 20000 in
theorem c_X4_isDigit (g : tq_G) (rest : List tq_S) (I : tq_I) (J : Int64) (v : Int32)  : CT g mX4_isDigit 1 0 0 [.int v] (tq_SC ++ rest) tq_RR I J (tq_ret (tq_SC ++ rest) tq_RR (some (.int (tq_b ((nI 48).toInt ≤ v.toInt ∧ v.toInt ≤ (nI 57).toInt)))) I J) := by
  refine CT.ret kX4_isDigit (Nat.le_of_ble_eq_true rfl) (fun x0 C hR hZ => ?_)
  refine EV_en (lv' := [some (.int v)]) 0 rfl ?_
  refine EV_blk (own := 4) C rfl [(.iload_n 0, 0, 0, 0, 0), (.bipush 48, 0, 0, 0, (nI 48)), (.bipush 57, 0, 0, 0, (nI 57))] (pc' := 5) (by decide +kernel) (lv' := [some (.int v)]) (st' := [.int (nI 57), .int (nI 48), .int v]) (I' := I) (J' := J) rfl ?_
  refine EV_cS (own := 4) (idx := 62) (μ' := mX11_isWithin) (av := [.int v, .int (nI 48), .int (nI 57)]) (rest := []) C hR rfl (Or.inr ⟨817, by decide⟩) kX11_isWithin sX11_isWithin (c_X11_isWithin g rest I J v (nI 48) (nI 57) ) (by decide +kernel) rfl (by decide) (Nat.le_of_ble_eq_true rfl) rfl ⟨Nat.zero_le _, Nat.zero_le _⟩ ?_
  exact EV_zret C hZ rfl tq_b01 (by decide +kernel) (Nat.le_refl _) (Nat.le_refl _) ⟨rfl, rfl, rfl, rfl, rfl⟩
def r_X4_isRowWhole (I : tq_I)  : Int32 := (if (I 115 1) = 0 then (if (I 115 2) < (nI 2) then (nI 0) else (nI 1)) else (if (I 115 2) = (I 115 3) then (nI 1) else (nI 0)))
set_option maxRecDepth 20000 in
theorem c_X4_isRowWhole (g : tq_G) (rest : List tq_S) (I : tq_I) (J : Int64)   : CT g mX4_isRowWhole 0 0 0 [.ref 115] (tq_SC ++ rest) tq_RR I J (tq_ret (tq_SC ++ rest) tq_RR (some (.int (r_X4_isRowWhole I))) I J) := by
  refine CT.ret kX4_isRowWhole (Nat.le_of_ble_eq_true rfl) (fun x0 C hR hZ => ?_)
  refine EV_en (lv' := [some (.ref 115)]) 0 rfl ?_
  refine EV_blk (own := 4) C rfl [(.aload_n 0, 0, 0, 0, 0), (.getfield 15, 4, 1, 328, 0)] (pc' := 4) (by decide +kernel) (lv' := [some (.ref 115)]) (st' := [.int (I 115 1)]) (I' := I) (J' := J) rfl ?_
  refine EV_if_ne (off := 19) (tgt := 23) C (by decide +kernel) (by decide) (fun h1 => ?_) (fun h1 => ?_)
  · skip
    refine EV_blk (own := 4) C rfl [(.aload_n 0, 0, 0, 0, 0), (.getfield 19, 4, 2, 330, 0), (.aload_n 0, 0, 0, 0, 0), (.getfield 22, 4, 3, 331, 0)] (pc' := 31) (by decide +kernel) (lv' := [some (.ref 115)]) (st' := [.int (I 115 3), .int (I 115 2)]) (I' := I) (J' := J) rfl ?_
    refine EV_icmp_ne (off := 7) (tgt := 38) C (by decide +kernel) (by decide) (fun h2 => ?_) (fun h2 => ?_)
    · skip
      refine EV_blk (own := 4) C rfl [(.iconst 0, 0, 0, 0, (nI 0))] (pc' := 39) (by decide +kernel) (lv' := [some (.ref 115)]) (st' := [.int (nI 0)]) (I' := I) (J' := J) rfl ?_
      exact EV_zret C hZ rfl (by decide) (by decide +kernel) (Nat.le_refl _) (Nat.le_refl _) ⟨tq_some (by simp only [r_X4_isRowWhole, if_neg h1, if_neg h2]), rfl, rfl, rfl, rfl⟩
    · skip
      refine EV_blk (own := 4) C rfl [(.iconst 1, 0, 0, 0, (nI 1)), (.goto 4, 0, 0, 0, 0)] (pc' := 39) (by decide +kernel) (lv' := [some (.ref 115)]) (st' := [.int (nI 1)]) (I' := I) (J' := J) rfl ?_
      exact EV_zret C hZ rfl (by decide) (by decide +kernel) (Nat.le_refl _) (Nat.le_refl _) ⟨tq_some (by simp only [r_X4_isRowWhole, if_neg h1, if_pos h2]), rfl, rfl, rfl, rfl⟩
  · skip
    refine EV_blk (own := 4) C rfl [(.aload_n 0, 0, 0, 0, 0), (.getfield 19, 4, 2, 330, 0), (.iconst 2, 0, 0, 0, (nI 2))] (pc' := 12) (by decide +kernel) (lv' := [some (.ref 115)]) (st' := [.int (nI 2), .int (I 115 2)]) (I' := I) (J' := J) rfl ?_
    refine EV_icmp_lt (off := 7) (tgt := 19) C (by decide +kernel) (by decide) (fun h3 => ?_) (fun h3 => ?_)
    · skip
      refine EV_blk (own := 4) C rfl [(.iconst 0, 0, 0, 0, (nI 0)), (.goto 19, 0, 0, 0, 0)] (pc' := 39) (by decide +kernel) (lv' := [some (.ref 115)]) (st' := [.int (nI 0)]) (I' := I) (J' := J) rfl ?_
      exact EV_zret C hZ rfl (by decide) (by decide +kernel) (Nat.le_refl _) (Nat.le_refl _) ⟨tq_some (by simp only [r_X4_isRowWhole, if_pos h1, if_pos h3]), rfl, rfl, rfl, rfl⟩
    · skip
      refine EV_blk (own := 4) C rfl [(.iconst 1, 0, 0, 0, (nI 1)), (.goto 23, 0, 0, 0, 0)] (pc' := 39) (by decide +kernel) (lv' := [some (.ref 115)]) (st' := [.int (nI 1)]) (I' := I) (J' := J) rfl ?_
      exact EV_zret C hZ rfl (by decide) (by decide +kernel) (Nat.le_refl _) (Nat.le_refl _) ⟨tq_some (by simp only [r_X4_isRowWhole, if_pos h1, if_neg h3]), rfl, rfl, rfl, rfl⟩
def r_X4_acceptRowEnd (I : tq_I)  : Int32 := (if (I 115 4) = 0 then (if (r_X4_isRowWhole I) = 0 then (nI 0) else (if (I 115 1) < (nI 10) then (if (I 115 1) = 0 then (nI 1) else (nI 1)) else (nI 0))) else (nI 0))
def I_X4_acceptRowEnd (I : tq_I)  : tq_I := (if (I 115 4) = 0 then (if (r_X4_isRowWhole I) = 0 then I else (if (I 115 1) < (nI 10) then (if (I 115 1) = 0 then (tq_u (tq_u (tq_u I 115 3 (I 115 2)) 115 1 (((tq_u I 115 3 (I 115 2)) 115 1) + (nI 1))) 115 2 (nI 0)) else (tq_u (tq_u I 115 1 ((I 115 1) + (nI 1))) 115 2 (nI 0))) else I)) else I)
set_option maxRecDepth 20000 in
theorem c_X4_acceptRowEnd (g : tq_G) (rest : List tq_S) (I : tq_I) (J : Int64)   : CT g mX4_acceptRowEnd 1 0 0 [.ref 115] (tq_SC ++ rest) tq_RR I J (tq_ret (tq_SC ++ rest) tq_RR (some (.int (r_X4_acceptRowEnd I))) (I_X4_acceptRowEnd I) J) := by
  refine CT.ret kX4_acceptRowEnd (Nat.le_of_ble_eq_true rfl) (fun x0 C hR hZ => ?_)
  refine EV_en (lv' := [some (.ref 115)]) 0 rfl ?_
  refine EV_blk (own := 4) C rfl [(.aload_n 0, 0, 0, 0, 0), (.getfield 25, 4, 4, 333, 0)] (pc' := 4) (by decide +kernel) (lv' := [some (.ref 115)]) (st' := [.int (I 115 4)]) (I' := I) (J' := J) rfl ?_
  refine EV_if_ne (off := 19) (tgt := 23) C (by decide +kernel) (by decide) (fun h1 => ?_) (fun h1 => ?_)
  · skip
    refine EV_blk (own := 4) C rfl [(.iconst 0, 0, 0, 0, (nI 0))] (pc' := 24) (by decide +kernel) (lv' := [some (.ref 115)]) (st' := [.int (nI 0)]) (I' := I) (J' := J) rfl ?_
    exact EV_iret C hZ rfl (by decide +kernel) (Nat.le_refl _) (Nat.le_refl _) ⟨tq_some (by simp only [r_X4_acceptRowEnd, if_neg h1]), rfl, rfl, by simp only [I_X4_acceptRowEnd, if_neg h1], rfl⟩
  · skip
    refine EV_blk (own := 4) C rfl [(.aload_n 0, 0, 0, 0, 0)] (pc' := 8) (by decide +kernel) (lv' := [some (.ref 115)]) (st' := [.ref 115]) (I' := I) (J' := J) rfl ?_
    refine EV_cV (own := 4) (idx := 37) (μ' := mX4_isRowWhole) (b := 115) (cb := 4) (av := []) (rest := []) C hR rfl (Or.inl ⟨826, by decide⟩) kX4_isRowWhole sX4_isRowWhole (c_X4_isRowWhole g rest I J  ) rfl rfl (by decide +kernel) rfl (by decide) (Nat.le_of_ble_eq_true rfl) rfl ⟨Nat.zero_le _, Nat.zero_le _⟩ ?_
    refine EV_if_eq (off := 12) (tgt := 23) C (by decide +kernel) (by decide) (fun h2 => ?_) (fun h2 => ?_)
    · skip
      refine EV_blk (own := 4) C rfl [(.iconst 0, 0, 0, 0, (nI 0))] (pc' := 24) (by decide +kernel) (lv' := [some (.ref 115)]) (st' := [.int (nI 0)]) (I' := I) (J' := J) rfl ?_
      exact EV_iret C hZ rfl (by decide +kernel) (Nat.le_refl _) (Nat.le_refl _) ⟨tq_some (by simp only [r_X4_acceptRowEnd, if_pos h1, if_pos h2]), rfl, rfl, by simp only [I_X4_acceptRowEnd, if_pos h1, if_pos h2], rfl⟩
    · skip
      refine EV_blk (own := 4) C rfl [(.aload_n 0, 0, 0, 0, 0), (.getfield 15, 4, 1, 328, 0), (.bipush 10, 0, 0, 0, (nI 10))] (pc' := 20) (by decide +kernel) (lv' := [some (.ref 115)]) (st' := [.int (nI 10), .int (I 115 1)]) (I' := I) (J' := J) rfl ?_
      refine EV_icmp_lt (off := 5) (tgt := 25) C (by decide +kernel) (by decide) (fun h3 => ?_) (fun h3 => ?_)
      · skip
        refine EV_blk (own := 4) C rfl [(.aload_n 0, 0, 0, 0, 0), (.getfield 15, 4, 1, 328, 0)] (pc' := 29) (by decide +kernel) (lv' := [some (.ref 115)]) (st' := [.int (I 115 1)]) (I' := I) (J' := J) rfl ?_
        refine EV_if_ne (off := 11) (tgt := 40) C (by decide +kernel) (by decide) (fun h4 => ?_) (fun h4 => ?_)
        · skip
          refine EV_blk (own := 4) C rfl [(.aload_n 0, 0, 0, 0, 0), (.dup, 0, 0, 0, 0), (.getfield 15, 4, 1, 328, 0), (.iconst 1, 0, 0, 0, (nI 1)), (.iadd, 0, 0, 0, 0), (.putfield 15, 4, 1, 328, 0), (.aload_n 0, 0, 0, 0, 0), (.iconst 0, 0, 0, 0, (nI 0)), (.putfield 19, 4, 2, 330, 0), (.iconst 1, 0, 0, 0, (nI 1))] (pc' := 56) (by decide +kernel) (lv' := [some (.ref 115)]) (st' := [.int (nI 1)]) (I' := (tq_u (tq_u I 115 1 ((I 115 1) + (nI 1))) 115 2 (nI 0))) (J' := J) rfl ?_
          exact EV_iret C hZ rfl (by decide +kernel) (Nat.le_refl _) (Nat.le_refl _) ⟨tq_some (by simp only [r_X4_acceptRowEnd, if_pos h1, if_neg h2, if_pos h3, if_neg h4]), rfl, rfl, by simp only [I_X4_acceptRowEnd, if_pos h1, if_neg h2, if_pos h3, if_neg h4], rfl⟩
        · skip
          refine EV_blk (own := 4) C rfl [(.aload_n 0, 0, 0, 0, 0), (.aload_n 0, 0, 0, 0, 0), (.getfield 19, 4, 2, 330, 0), (.putfield 22, 4, 3, 331, 0), (.aload_n 0, 0, 0, 0, 0), (.dup, 0, 0, 0, 0), (.getfield 15, 4, 1, 328, 0), (.iconst 1, 0, 0, 0, (nI 1)), (.iadd, 0, 0, 0, 0), (.putfield 15, 4, 1, 328, 0), (.aload_n 0, 0, 0, 0, 0), (.iconst 0, 0, 0, 0, (nI 0)), (.putfield 19, 4, 2, 330, 0), (.iconst 1, 0, 0, 0, (nI 1))] (pc' := 56) (by decide +kernel) (lv' := [some (.ref 115)]) (st' := [.int (nI 1)]) (I' := (tq_u (tq_u (tq_u I 115 3 (I 115 2)) 115 1 (((tq_u I 115 3 (I 115 2)) 115 1) + (nI 1))) 115 2 (nI 0))) (J' := J) rfl ?_
          exact EV_iret C hZ rfl (by decide +kernel) (Nat.le_refl _) (Nat.le_refl _) ⟨tq_some (by simp only [r_X4_acceptRowEnd, if_pos h1, if_neg h2, if_pos h3, if_pos h4]), rfl, rfl, by simp only [I_X4_acceptRowEnd, if_pos h1, if_neg h2, if_pos h3, if_pos h4], rfl⟩
      · skip
        refine EV_blk (own := 4) C rfl [(.iconst 0, 0, 0, 0, (nI 0))] (pc' := 24) (by decide +kernel) (lv' := [some (.ref 115)]) (st' := [.int (nI 0)]) (I' := I) (J' := J) rfl ?_
        exact EV_iret C hZ rfl (by decide +kernel) (Nat.le_refl _) (Nat.le_refl _) ⟨tq_some (by simp only [r_X4_acceptRowEnd, if_pos h1, if_neg h2, if_neg h3]), rfl, rfl, by simp only [I_X4_acceptRowEnd, if_pos h1, if_neg h2, if_neg h3], rfl⟩
theorem fr_X4_acceptRowEnd (I : tq_I)  {cz : Nat} (hc : cz ≠ 115) (jz : Nat) : I_X4_acceptRowEnd I  cz jz = I cz jz := by
  have hc0 := hc
  simp only [I_X4_acceptRowEnd]
  (repeat' split) <;> simp (disch := first | assumption | (simp only [ne_eq] at *; simp [*])) [tq_u, tq_cp, hc0, fr_tb1, fr_tb2, fr_X8_touchBlock, fr_X8_touchAll, fr_X8_changeCorner, fr_X8_changePath, fr_cb1, fr_cb2, fr_X8_changeBlock, fr_wipe1, fr_X1_wipe, fr_sm1, fr_sm2, fr_X8_startMap, fr_X6_place, fr_mt1, fr_mt2, fr_X6_moveTo, fr_ch2, fr_X10_choose, fr_X1_take, fr_fgt1, fr_X5_forget, fr_X5_meet, fr_gat1, fr_X5_gather, fr_dl1, fr_dl2, fr_X7_drawLayers, fr_dp1, fr_X7_drawPieces, fr_dr1, fr_X7_draw, fr_X9_add, fr_ac1, fr_X9_addCell, fr_tk0, fr_tk1, fr_tk2, fr_X9_take, fr_append111, fr_append113]
def r_X4_acceptNumber (I : tq_I) (p L : Nat) : Int32 := (if (I 115 4) = 0 then (if (I 111 1) ≤ ((nI p) + (nI 1)) then (if (tq_b ((nI 1).toInt ≤ ((I 112 p) - (nI 48)).toInt ∧ ((I 112 p) - (nI 48)).toInt ≤ (nI 11).toInt)) = 0 then (nI 0) else (nI 1)) else (if (tq_b ((nI 48).toInt ≤ (I 112 (p + 1)).toInt ∧ (I 112 (p + 1)).toInt ≤ (nI 57).toInt)) = 0 then (if (tq_b ((nI 1).toInt ≤ ((I 112 p) - (nI 48)).toInt ∧ ((I 112 p) - (nI 48)).toInt ≤ (nI 11).toInt)) = 0 then (nI 0) else (nI 1)) else (if (I 111 1) ≤ ((nI p) + (nI 2)) then (if (tq_b ((nI 1).toInt ≤ ((((nI 10) * ((I 112 p) - (nI 48))) + (I 112 (p + 1))) - (nI 48)).toInt ∧ ((((nI 10) * ((I 112 p) - (nI 48))) + (I 112 (p + 1))) - (nI 48)).toInt ≤ (nI 11).toInt)) = 0 then (nI 0) else (nI 2)) else (if (tq_b ((nI 48).toInt ≤ (I 112 (p + 2)).toInt ∧ (I 112 (p + 2)).toInt ≤ (nI 57).toInt)) = 0 then (if (tq_b ((nI 1).toInt ≤ ((((nI 10) * ((I 112 p) - (nI 48))) + (I 112 (p + 1))) - (nI 48)).toInt ∧ ((((nI 10) * ((I 112 p) - (nI 48))) + (I 112 (p + 1))) - (nI 48)).toInt ≤ (nI 11).toInt)) = 0 then (nI 0) else (nI 2)) else (nI 0))))) else (nI 0))
def I_X4_acceptNumber (I : tq_I) (p L : Nat) : tq_I := (if (I 115 4) = 0 then (if (I 111 1) ≤ ((nI p) + (nI 1)) then (if (tq_b ((nI 1).toInt ≤ ((I 112 p) - (nI 48)).toInt ∧ ((I 112 p) - (nI 48)).toInt ≤ (nI 11).toInt)) = 0 then I else (tq_u I 115 4 ((I 112 p) - (nI 48)))) else (if (tq_b ((nI 48).toInt ≤ (I 112 (p + 1)).toInt ∧ (I 112 (p + 1)).toInt ≤ (nI 57).toInt)) = 0 then (if (tq_b ((nI 1).toInt ≤ ((I 112 p) - (nI 48)).toInt ∧ ((I 112 p) - (nI 48)).toInt ≤ (nI 11).toInt)) = 0 then I else (tq_u I 115 4 ((I 112 p) - (nI 48)))) else (if (I 111 1) ≤ ((nI p) + (nI 2)) then (if (tq_b ((nI 1).toInt ≤ ((((nI 10) * ((I 112 p) - (nI 48))) + (I 112 (p + 1))) - (nI 48)).toInt ∧ ((((nI 10) * ((I 112 p) - (nI 48))) + (I 112 (p + 1))) - (nI 48)).toInt ≤ (nI 11).toInt)) = 0 then I else (tq_u I 115 4 ((((nI 10) * ((I 112 p) - (nI 48))) + (I 112 (p + 1))) - (nI 48)))) else (if (tq_b ((nI 48).toInt ≤ (I 112 (p + 2)).toInt ∧ (I 112 (p + 2)).toInt ≤ (nI 57).toInt)) = 0 then (if (tq_b ((nI 1).toInt ≤ ((((nI 10) * ((I 112 p) - (nI 48))) + (I 112 (p + 1))) - (nI 48)).toInt ∧ ((((nI 10) * ((I 112 p) - (nI 48))) + (I 112 (p + 1))) - (nI 48)).toInt ≤ (nI 11).toInt)) = 0 then I else (tq_u I 115 4 ((((nI 10) * ((I 112 p) - (nI 48))) + (I 112 (p + 1))) - (nI 48)))) else I)))) else I)
set_option maxRecDepth 20000 in
theorem c_X4_acceptNumber (g : tq_G) (rest : List tq_S) (I : tq_I) (J : Int64) (p L : Nat) (hp : p < L) (hL : I 111 1 = nI L) (hL150 : L ≤ 150) : CT g mX4_acceptNumber 2 0 0 [.ref 115, .ref 111, .int (nI p)] (tq_SC ++ rest) tq_RR I J (tq_ret (tq_SC ++ rest) tq_RR (some (.int (r_X4_acceptNumber I p L))) (I_X4_acceptNumber I p L) J) := by
  refine CT.ret kX4_acceptNumber (Nat.le_of_ble_eq_true rfl) (fun x0 C hR hZ => ?_)
  refine EV_en (lv' := [some (.ref 115), some (.ref 111), some (.int (nI p)), none, none, none]) 3 rfl ?_
  refine EV_blk (own := 4) C rfl [(.aload_n 0, 0, 0, 0, 0), (.getfield 25, 4, 4, 333, 0)] (pc' := 4) (by decide +kernel) (lv' := [some (.ref 115), some (.ref 111), some (.int (nI p)), none, none, none]) (st' := [.int (I 115 4)]) (I' := I) (J' := J) rfl ?_
  refine EV_if_eq (off := 5) (tgt := 9) C (by decide +kernel) (by decide) (fun h1 => ?_) (fun h1 => ?_)
  · skip
    refine EV_blk (own := 4) C rfl [(.iload_n 2, 0, 0, 0, 0), (.iconst 1, 0, 0, 0, (nI 1)), (.iadd, 0, 0, 0, 0), (.aload_n 1, 0, 0, 0, 0), (.getfield 28, 0, 1, 313, 0)] (pc' := 16) (by decide +kernel) (lv' := [some (.ref 115), some (.ref 111), some (.int (nI p)), none, none, none]) (st' := [.int (I 111 1), .int ((nI p) + (nI 1))]) (I' := I) (J' := J) rfl ?_
    refine EV_icmp_ge (off := 21) (tgt := 37) C (by decide +kernel) (by decide) (fun h2 => ?_) (fun h2 => ?_)
    · skip
      refine EV_blk (own := 4) C rfl [(.iconst 0, 0, 0, 0, (nI 0)), (.istore_n 3, 0, 0, 0, 0), (.iload_n 3, 0, 0, 0, 0)] (pc' := 40) (by decide +kernel) (lv' := [some (.ref 115), some (.ref 111), some (.int (nI p)), some (.int (nI 0)), none, none]) (st' := [.int (nI 0)]) (I' := I) (J' := J) rfl ?_
      refine EV_if_eq (off := 31) (tgt := 71) C (by decide +kernel) (by decide) (fun h3 => ?_) (fun h3 => ?_)
      · skip
        refine EV_blk (own := 4) C rfl [(.iconst 0, 0, 0, 0, (nI 0)), (.istore 4, 0, 0, 0, 0), (.aload_n 1, 0, 0, 0, 0), (.getfield 41, 0, 0, 310, 0), (.iload_n 2, 0, 0, 0, 0)] (pc' := 79) (by decide +kernel) (lv' := [some (.ref 115), some (.ref 111), some (.int (nI p)), some (.int (nI 0)), some (.int (nI 0)), none]) (st' := [.int (nI p), .ref 112]) (I' := I) (J' := J) rfl ?_
        refine EV_iald (j := p) C (by decide +kernel) rfl (nI_toInt (by omega)) (by omega) ?_
        refine EV_blk (own := 4) C rfl [(.bipush 48, 0, 0, 0, (nI 48)), (.isub, 0, 0, 0, 0), (.istore 5, 0, 0, 0, 0), (.iload_n 3, 0, 0, 0, 0)] (pc' := 86) (by decide +kernel) (lv' := [some (.ref 115), some (.ref 111), some (.int (nI p)), some (.int (nI 0)), some (.int (nI 0)), some (.int ((I 112 p) - (nI 48)))]) (st' := [.int (nI 0)]) (I' := I) (J' := J) rfl ?_
        refine EV_if_eq (off := 22) (tgt := 108) C (by decide +kernel) (by decide) (fun h4 => ?_) (fun h4 => ?_)
        · skip
          refine EV_blk (own := 4) C rfl [(.iload 4, 0, 0, 0, 0)] (pc' := 110) (by decide +kernel) (lv' := [some (.ref 115), some (.ref 111), some (.int (nI p)), some (.int (nI 0)), some (.int (nI 0)), some (.int ((I 112 p) - (nI 48)))]) (st' := [.int (nI 0)]) (I' := I) (J' := J) rfl ?_
          refine EV_if_ne (off := 14) (tgt := 124) C (by decide +kernel) (by decide) (fun h5 => ?_) (fun h5 => ?_)
          · skip
            exact absurd (by decide) h5
          · skip
            refine EV_blk (own := 4) C rfl [(.iload 5, 0, 0, 0, 0), (.iconst 1, 0, 0, 0, (nI 1)), (.bipush 11, 0, 0, 0, (nI 11))] (pc' := 118) (by decide +kernel) (lv' := [some (.ref 115), some (.ref 111), some (.int (nI p)), some (.int (nI 0)), some (.int (nI 0)), some (.int ((I 112 p) - (nI 48)))]) (st' := [.int (nI 11), .int (nI 1), .int ((I 112 p) - (nI 48))]) (I' := I) (J' := J) rfl ?_
            refine EV_cS (own := 4) (idx := 62) (μ' := mX11_isWithin) (av := [.int ((I 112 p) - (nI 48)), .int (nI 1), .int (nI 11)]) (rest := []) C hR rfl (Or.inr ⟨817, by decide⟩) kX11_isWithin sX11_isWithin (c_X11_isWithin g rest I J ((I 112 p) - (nI 48)) (nI 1) (nI 11) ) (by decide +kernel) rfl (by decide) (Nat.le_of_ble_eq_true rfl) rfl ⟨Nat.zero_le _, Nat.zero_le _⟩ ?_
            refine EV_if_ne (off := 5) (tgt := 126) C (by decide +kernel) (by decide) (fun h6 => ?_) (fun h6 => ?_)
            · skip
              refine EV_blk (own := 4) C rfl [(.aload_n 0, 0, 0, 0, 0), (.iload 5, 0, 0, 0, 0), (.putfield 25, 4, 4, 333, 0), (.iload_n 3, 0, 0, 0, 0)] (pc' := 133) (by decide +kernel) (lv' := [some (.ref 115), some (.ref 111), some (.int (nI p)), some (.int (nI 0)), some (.int (nI 0)), some (.int ((I 112 p) - (nI 48)))]) (st' := [.int (nI 0)]) (I' := (tq_u I 115 4 ((I 112 p) - (nI 48)))) (J' := J) rfl ?_
              refine EV_if_eq (off := 7) (tgt := 140) C (by decide +kernel) (by decide) (fun h7 => ?_) (fun h7 => ?_)
              · skip
                refine EV_blk (own := 4) C rfl [(.iconst 1, 0, 0, 0, (nI 1))] (pc' := 141) (by decide +kernel) (lv' := [some (.ref 115), some (.ref 111), some (.int (nI p)), some (.int (nI 0)), some (.int (nI 0)), some (.int ((I 112 p) - (nI 48)))]) (st' := [.int (nI 1)]) (I' := (tq_u I 115 4 ((I 112 p) - (nI 48)))) (J' := J) rfl ?_
                exact EV_iret C hZ rfl (by decide +kernel) (Nat.le_refl _) (Nat.le_refl _) ⟨tq_some (by simp only [r_X4_acceptNumber, if_pos h1, if_pos h2, if_pos h3, if_pos h4, if_pos h5, if_neg h6, if_pos h7]), rfl, rfl, by simp only [I_X4_acceptNumber, if_pos h1, if_pos h2, if_pos h3, if_pos h4, if_pos h5, if_neg h6, if_pos h7], rfl⟩
              · skip
                exact absurd (by decide) h7
            · skip
              refine EV_blk (own := 4) C rfl [(.iconst 0, 0, 0, 0, (nI 0))] (pc' := 125) (by decide +kernel) (lv' := [some (.ref 115), some (.ref 111), some (.int (nI p)), some (.int (nI 0)), some (.int (nI 0)), some (.int ((I 112 p) - (nI 48)))]) (st' := [.int (nI 0)]) (I' := I) (J' := J) rfl ?_
              exact EV_iret C hZ rfl (by decide +kernel) (Nat.le_refl _) (Nat.le_refl _) ⟨tq_some (by simp only [r_X4_acceptNumber, if_pos h1, if_pos h2, if_pos h3, if_pos h4, if_pos h5, if_pos h6]), rfl, rfl, by simp only [I_X4_acceptNumber, if_pos h1, if_pos h2, if_pos h3, if_pos h4, if_pos h5, if_pos h6], rfl⟩
        · skip
          exact absurd (by decide) h4
      · skip
        exact absurd (by decide) h3
    · skip
      have hk1 : p + 1 < L := by rw [hL] at h2; simp (disch := omega) only [nI_add, Int32.le_iff_toInt_le, nI_toInt] at h2; omega
      refine EV_blk (own := 4) C rfl [(.aload_n 1, 0, 0, 0, 0), (.getfield 41, 0, 0, 310, 0), (.iload_n 2, 0, 0, 0, 0), (.iconst 1, 0, 0, 0, (nI 1)), (.iadd, 0, 0, 0, 0)] (pc' := 26) (by decide +kernel) (lv' := [some (.ref 115), some (.ref 111), some (.int (nI p)), none, none, none]) (st' := [.int ((nI p) + (nI 1)), .ref 112]) (I' := I) (J' := J) rfl ?_
      refine EV_iald (j := (p + 1)) C (by decide +kernel) rfl (tq_toI (p + 1) (by simp (disch := omega) only [nI_add, tq_mul, tq_rem_nI, tq_div_nI, tq_sub_nI]) (by omega)) (by omega) ?_
      refine EV_cS (own := 4) (idx := 44) (μ' := mX4_isDigit) (av := [.int (I 112 (p + 1))]) (rest := []) C hR rfl (Or.inl ⟨814, by decide⟩) kX4_isDigit sX4_isDigit (c_X4_isDigit g rest I J (I 112 (p + 1)) ) (by decide +kernel) rfl (by decide) (Nat.le_of_ble_eq_true rfl) rfl ⟨Nat.zero_le _, Nat.zero_le _⟩ ?_
      refine EV_if_eq (off := 7) (tgt := 37) C (by decide +kernel) (by decide) (fun h8 => ?_) (fun h8 => ?_)
      · skip
        refine EV_blk (own := 4) C rfl [(.iconst 0, 0, 0, 0, (nI 0)), (.istore_n 3, 0, 0, 0, 0), (.iload_n 3, 0, 0, 0, 0)] (pc' := 40) (by decide +kernel) (lv' := [some (.ref 115), some (.ref 111), some (.int (nI p)), some (.int (nI 0)), none, none]) (st' := [.int (nI 0)]) (I' := I) (J' := J) rfl ?_
        refine EV_if_eq (off := 31) (tgt := 71) C (by decide +kernel) (by decide) (fun h9 => ?_) (fun h9 => ?_)
        · skip
          refine EV_blk (own := 4) C rfl [(.iconst 0, 0, 0, 0, (nI 0)), (.istore 4, 0, 0, 0, 0), (.aload_n 1, 0, 0, 0, 0), (.getfield 41, 0, 0, 310, 0), (.iload_n 2, 0, 0, 0, 0)] (pc' := 79) (by decide +kernel) (lv' := [some (.ref 115), some (.ref 111), some (.int (nI p)), some (.int (nI 0)), some (.int (nI 0)), none]) (st' := [.int (nI p), .ref 112]) (I' := I) (J' := J) rfl ?_
          refine EV_iald (j := p) C (by decide +kernel) rfl (nI_toInt (by omega)) (by omega) ?_
          refine EV_blk (own := 4) C rfl [(.bipush 48, 0, 0, 0, (nI 48)), (.isub, 0, 0, 0, 0), (.istore 5, 0, 0, 0, 0), (.iload_n 3, 0, 0, 0, 0)] (pc' := 86) (by decide +kernel) (lv' := [some (.ref 115), some (.ref 111), some (.int (nI p)), some (.int (nI 0)), some (.int (nI 0)), some (.int ((I 112 p) - (nI 48)))]) (st' := [.int (nI 0)]) (I' := I) (J' := J) rfl ?_
          refine EV_if_eq (off := 22) (tgt := 108) C (by decide +kernel) (by decide) (fun h10 => ?_) (fun h10 => ?_)
          · skip
            refine EV_blk (own := 4) C rfl [(.iload 4, 0, 0, 0, 0)] (pc' := 110) (by decide +kernel) (lv' := [some (.ref 115), some (.ref 111), some (.int (nI p)), some (.int (nI 0)), some (.int (nI 0)), some (.int ((I 112 p) - (nI 48)))]) (st' := [.int (nI 0)]) (I' := I) (J' := J) rfl ?_
            refine EV_if_ne (off := 14) (tgt := 124) C (by decide +kernel) (by decide) (fun h11 => ?_) (fun h11 => ?_)
            · skip
              exact absurd (by decide) h11
            · skip
              refine EV_blk (own := 4) C rfl [(.iload 5, 0, 0, 0, 0), (.iconst 1, 0, 0, 0, (nI 1)), (.bipush 11, 0, 0, 0, (nI 11))] (pc' := 118) (by decide +kernel) (lv' := [some (.ref 115), some (.ref 111), some (.int (nI p)), some (.int (nI 0)), some (.int (nI 0)), some (.int ((I 112 p) - (nI 48)))]) (st' := [.int (nI 11), .int (nI 1), .int ((I 112 p) - (nI 48))]) (I' := I) (J' := J) rfl ?_
              refine EV_cS (own := 4) (idx := 62) (μ' := mX11_isWithin) (av := [.int ((I 112 p) - (nI 48)), .int (nI 1), .int (nI 11)]) (rest := []) C hR rfl (Or.inr ⟨817, by decide⟩) kX11_isWithin sX11_isWithin (c_X11_isWithin g rest I J ((I 112 p) - (nI 48)) (nI 1) (nI 11) ) (by decide +kernel) rfl (by decide) (Nat.le_of_ble_eq_true rfl) rfl ⟨Nat.zero_le _, Nat.zero_le _⟩ ?_
              refine EV_if_ne (off := 5) (tgt := 126) C (by decide +kernel) (by decide) (fun h12 => ?_) (fun h12 => ?_)
              · skip
                refine EV_blk (own := 4) C rfl [(.aload_n 0, 0, 0, 0, 0), (.iload 5, 0, 0, 0, 0), (.putfield 25, 4, 4, 333, 0), (.iload_n 3, 0, 0, 0, 0)] (pc' := 133) (by decide +kernel) (lv' := [some (.ref 115), some (.ref 111), some (.int (nI p)), some (.int (nI 0)), some (.int (nI 0)), some (.int ((I 112 p) - (nI 48)))]) (st' := [.int (nI 0)]) (I' := (tq_u I 115 4 ((I 112 p) - (nI 48)))) (J' := J) rfl ?_
                refine EV_if_eq (off := 7) (tgt := 140) C (by decide +kernel) (by decide) (fun h13 => ?_) (fun h13 => ?_)
                · skip
                  refine EV_blk (own := 4) C rfl [(.iconst 1, 0, 0, 0, (nI 1))] (pc' := 141) (by decide +kernel) (lv' := [some (.ref 115), some (.ref 111), some (.int (nI p)), some (.int (nI 0)), some (.int (nI 0)), some (.int ((I 112 p) - (nI 48)))]) (st' := [.int (nI 1)]) (I' := (tq_u I 115 4 ((I 112 p) - (nI 48)))) (J' := J) rfl ?_
                  exact EV_iret C hZ rfl (by decide +kernel) (Nat.le_refl _) (Nat.le_refl _) ⟨tq_some (by simp only [r_X4_acceptNumber, if_pos h1, if_neg h2, if_pos h8, if_pos h9, if_pos h10, if_pos h11, if_neg h12, if_pos h13]), rfl, rfl, by simp only [I_X4_acceptNumber, if_pos h1, if_neg h2, if_pos h8, if_pos h9, if_pos h10, if_pos h11, if_neg h12, if_pos h13], rfl⟩
                · skip
                  exact absurd (by decide) h13
              · skip
                refine EV_blk (own := 4) C rfl [(.iconst 0, 0, 0, 0, (nI 0))] (pc' := 125) (by decide +kernel) (lv' := [some (.ref 115), some (.ref 111), some (.int (nI p)), some (.int (nI 0)), some (.int (nI 0)), some (.int ((I 112 p) - (nI 48)))]) (st' := [.int (nI 0)]) (I' := I) (J' := J) rfl ?_
                exact EV_iret C hZ rfl (by decide +kernel) (Nat.le_refl _) (Nat.le_refl _) ⟨tq_some (by simp only [r_X4_acceptNumber, if_pos h1, if_neg h2, if_pos h8, if_pos h9, if_pos h10, if_pos h11, if_pos h12]), rfl, rfl, by simp only [I_X4_acceptNumber, if_pos h1, if_neg h2, if_pos h8, if_pos h9, if_pos h10, if_pos h11, if_pos h12], rfl⟩
          · skip
            exact absurd (by decide) h10
        · skip
          exact absurd (by decide) h9
      · skip
        refine EV_blk (own := 4) C rfl [(.iconst 1, 0, 0, 0, (nI 1)), (.goto 4, 0, 0, 0, 0), (.istore_n 3, 0, 0, 0, 0), (.iload_n 3, 0, 0, 0, 0)] (pc' := 40) (by decide +kernel) (lv' := [some (.ref 115), some (.ref 111), some (.int (nI p)), some (.int (nI 1)), none, none]) (st' := [.int (nI 1)]) (I' := I) (J' := J) rfl ?_
        refine EV_if_eq (off := 31) (tgt := 71) C (by decide +kernel) (by decide) (fun h14 => ?_) (fun h14 => ?_)
        · skip
          exact absurd h14 (by decide)
        · skip
          refine EV_blk (own := 4) C rfl [(.iload_n 2, 0, 0, 0, 0), (.iconst 2, 0, 0, 0, (nI 2)), (.iadd, 0, 0, 0, 0), (.aload_n 1, 0, 0, 0, 0), (.getfield 28, 0, 1, 313, 0)] (pc' := 50) (by decide +kernel) (lv' := [some (.ref 115), some (.ref 111), some (.int (nI p)), some (.int (nI 1)), none, none]) (st' := [.int (I 111 1), .int ((nI p) + (nI 2))]) (I' := I) (J' := J) rfl ?_
          refine EV_icmp_ge (off := 21) (tgt := 71) C (by decide +kernel) (by decide) (fun h15 => ?_) (fun h15 => ?_)
          · skip
            refine EV_blk (own := 4) C rfl [(.iconst 0, 0, 0, 0, (nI 0)), (.istore 4, 0, 0, 0, 0), (.aload_n 1, 0, 0, 0, 0), (.getfield 41, 0, 0, 310, 0), (.iload_n 2, 0, 0, 0, 0)] (pc' := 79) (by decide +kernel) (lv' := [some (.ref 115), some (.ref 111), some (.int (nI p)), some (.int (nI 1)), some (.int (nI 0)), none]) (st' := [.int (nI p), .ref 112]) (I' := I) (J' := J) rfl ?_
            refine EV_iald (j := p) C (by decide +kernel) rfl (nI_toInt (by omega)) (by omega) ?_
            refine EV_blk (own := 4) C rfl [(.bipush 48, 0, 0, 0, (nI 48)), (.isub, 0, 0, 0, 0), (.istore 5, 0, 0, 0, 0), (.iload_n 3, 0, 0, 0, 0)] (pc' := 86) (by decide +kernel) (lv' := [some (.ref 115), some (.ref 111), some (.int (nI p)), some (.int (nI 1)), some (.int (nI 0)), some (.int ((I 112 p) - (nI 48)))]) (st' := [.int (nI 1)]) (I' := I) (J' := J) rfl ?_
            refine EV_if_eq (off := 22) (tgt := 108) C (by decide +kernel) (by decide) (fun h16 => ?_) (fun h16 => ?_)
            · skip
              exact absurd h16 (by decide)
            · skip
              refine EV_blk (own := 4) C rfl [(.bipush 10, 0, 0, 0, (nI 10)), (.iload 5, 0, 0, 0, 0), (.imul, 0, 0, 0, 0), (.aload_n 1, 0, 0, 0, 0), (.getfield 41, 0, 0, 310, 0), (.iload_n 2, 0, 0, 0, 0), (.iconst 1, 0, 0, 0, (nI 1)), (.iadd, 0, 0, 0, 0)] (pc' := 101) (by decide +kernel) (lv' := [some (.ref 115), some (.ref 111), some (.int (nI p)), some (.int (nI 1)), some (.int (nI 0)), some (.int ((I 112 p) - (nI 48)))]) (st' := [.int ((nI p) + (nI 1)), .ref 112, .int ((nI 10) * ((I 112 p) - (nI 48)))]) (I' := I) (J' := J) rfl ?_
              refine EV_iald (j := (p + 1)) C (by decide +kernel) rfl (tq_toI (p + 1) (by simp (disch := omega) only [nI_add, tq_mul, tq_rem_nI, tq_div_nI, tq_sub_nI]) (by omega)) (by omega) ?_
              refine EV_blk (own := 4) C rfl [(.iadd, 0, 0, 0, 0), (.bipush 48, 0, 0, 0, (nI 48)), (.isub, 0, 0, 0, 0), (.istore 5, 0, 0, 0, 0), (.iload 4, 0, 0, 0, 0)] (pc' := 110) (by decide +kernel) (lv' := [some (.ref 115), some (.ref 111), some (.int (nI p)), some (.int (nI 1)), some (.int (nI 0)), some (.int ((((nI 10) * ((I 112 p) - (nI 48))) + (I 112 (p + 1))) - (nI 48)))]) (st' := [.int (nI 0)]) (I' := I) (J' := J) rfl ?_
              refine EV_if_ne (off := 14) (tgt := 124) C (by decide +kernel) (by decide) (fun h17 => ?_) (fun h17 => ?_)
              · skip
                exact absurd (by decide) h17
              · skip
                refine EV_blk (own := 4) C rfl [(.iload 5, 0, 0, 0, 0), (.iconst 1, 0, 0, 0, (nI 1)), (.bipush 11, 0, 0, 0, (nI 11))] (pc' := 118) (by decide +kernel) (lv' := [some (.ref 115), some (.ref 111), some (.int (nI p)), some (.int (nI 1)), some (.int (nI 0)), some (.int ((((nI 10) * ((I 112 p) - (nI 48))) + (I 112 (p + 1))) - (nI 48)))]) (st' := [.int (nI 11), .int (nI 1), .int ((((nI 10) * ((I 112 p) - (nI 48))) + (I 112 (p + 1))) - (nI 48))]) (I' := I) (J' := J) rfl ?_
                refine EV_cS (own := 4) (idx := 62) (μ' := mX11_isWithin) (av := [.int ((((nI 10) * ((I 112 p) - (nI 48))) + (I 112 (p + 1))) - (nI 48)), .int (nI 1), .int (nI 11)]) (rest := []) C hR rfl (Or.inr ⟨817, by decide⟩) kX11_isWithin sX11_isWithin (c_X11_isWithin g rest I J ((((nI 10) * ((I 112 p) - (nI 48))) + (I 112 (p + 1))) - (nI 48)) (nI 1) (nI 11) ) (by decide +kernel) rfl (by decide) (Nat.le_of_ble_eq_true rfl) rfl ⟨Nat.zero_le _, Nat.zero_le _⟩ ?_
                refine EV_if_ne (off := 5) (tgt := 126) C (by decide +kernel) (by decide) (fun h18 => ?_) (fun h18 => ?_)
                · skip
                  refine EV_blk (own := 4) C rfl [(.aload_n 0, 0, 0, 0, 0), (.iload 5, 0, 0, 0, 0), (.putfield 25, 4, 4, 333, 0), (.iload_n 3, 0, 0, 0, 0)] (pc' := 133) (by decide +kernel) (lv' := [some (.ref 115), some (.ref 111), some (.int (nI p)), some (.int (nI 1)), some (.int (nI 0)), some (.int ((((nI 10) * ((I 112 p) - (nI 48))) + (I 112 (p + 1))) - (nI 48)))]) (st' := [.int (nI 1)]) (I' := (tq_u I 115 4 ((((nI 10) * ((I 112 p) - (nI 48))) + (I 112 (p + 1))) - (nI 48)))) (J' := J) rfl ?_
                  refine EV_if_eq (off := 7) (tgt := 140) C (by decide +kernel) (by decide) (fun h19 => ?_) (fun h19 => ?_)
                  · skip
                    exact absurd h19 (by decide)
                  · skip
                    refine EV_blk (own := 4) C rfl [(.iconst 2, 0, 0, 0, (nI 2)), (.goto 4, 0, 0, 0, 0)] (pc' := 141) (by decide +kernel) (lv' := [some (.ref 115), some (.ref 111), some (.int (nI p)), some (.int (nI 1)), some (.int (nI 0)), some (.int ((((nI 10) * ((I 112 p) - (nI 48))) + (I 112 (p + 1))) - (nI 48)))]) (st' := [.int (nI 2)]) (I' := (tq_u I 115 4 ((((nI 10) * ((I 112 p) - (nI 48))) + (I 112 (p + 1))) - (nI 48)))) (J' := J) rfl ?_
                    exact EV_iret C hZ rfl (by decide +kernel) (Nat.le_refl _) (Nat.le_refl _) ⟨tq_some (by simp only [r_X4_acceptNumber, if_pos h1, if_neg h2, if_neg h8, if_neg h14, if_pos h15, if_neg h16, if_pos h17, if_neg h18, if_neg h19]), rfl, rfl, by simp only [I_X4_acceptNumber, if_pos h1, if_neg h2, if_neg h8, if_neg h14, if_pos h15, if_neg h16, if_pos h17, if_neg h18, if_neg h19], rfl⟩
                · skip
                  refine EV_blk (own := 4) C rfl [(.iconst 0, 0, 0, 0, (nI 0))] (pc' := 125) (by decide +kernel) (lv' := [some (.ref 115), some (.ref 111), some (.int (nI p)), some (.int (nI 1)), some (.int (nI 0)), some (.int ((((nI 10) * ((I 112 p) - (nI 48))) + (I 112 (p + 1))) - (nI 48)))]) (st' := [.int (nI 0)]) (I' := I) (J' := J) rfl ?_
                  exact EV_iret C hZ rfl (by decide +kernel) (Nat.le_refl _) (Nat.le_refl _) ⟨tq_some (by simp only [r_X4_acceptNumber, if_pos h1, if_neg h2, if_neg h8, if_neg h14, if_pos h15, if_neg h16, if_pos h17, if_pos h18]), rfl, rfl, by simp only [I_X4_acceptNumber, if_pos h1, if_neg h2, if_neg h8, if_neg h14, if_pos h15, if_neg h16, if_pos h17, if_pos h18], rfl⟩
          · skip
            have hk2 : p + 2 < L := by rw [hL] at h15; simp (disch := omega) only [nI_add, Int32.le_iff_toInt_le, nI_toInt] at h15; omega
            refine EV_blk (own := 4) C rfl [(.aload_n 1, 0, 0, 0, 0), (.getfield 41, 0, 0, 310, 0), (.iload_n 2, 0, 0, 0, 0), (.iconst 2, 0, 0, 0, (nI 2)), (.iadd, 0, 0, 0, 0)] (pc' := 60) (by decide +kernel) (lv' := [some (.ref 115), some (.ref 111), some (.int (nI p)), some (.int (nI 1)), none, none]) (st' := [.int ((nI p) + (nI 2)), .ref 112]) (I' := I) (J' := J) rfl ?_
            refine EV_iald (j := (p + 2)) C (by decide +kernel) rfl (tq_toI (p + 2) (by simp (disch := omega) only [nI_add, tq_mul, tq_rem_nI, tq_div_nI, tq_sub_nI]) (by omega)) (by omega) ?_
            refine EV_cS (own := 4) (idx := 44) (μ' := mX4_isDigit) (av := [.int (I 112 (p + 2))]) (rest := []) C hR rfl (Or.inl ⟨814, by decide⟩) kX4_isDigit sX4_isDigit (c_X4_isDigit g rest I J (I 112 (p + 2)) ) (by decide +kernel) rfl (by decide) (Nat.le_of_ble_eq_true rfl) rfl ⟨Nat.zero_le _, Nat.zero_le _⟩ ?_
            refine EV_if_eq (off := 7) (tgt := 71) C (by decide +kernel) (by decide) (fun h20 => ?_) (fun h20 => ?_)
            · skip
              refine EV_blk (own := 4) C rfl [(.iconst 0, 0, 0, 0, (nI 0)), (.istore 4, 0, 0, 0, 0), (.aload_n 1, 0, 0, 0, 0), (.getfield 41, 0, 0, 310, 0), (.iload_n 2, 0, 0, 0, 0)] (pc' := 79) (by decide +kernel) (lv' := [some (.ref 115), some (.ref 111), some (.int (nI p)), some (.int (nI 1)), some (.int (nI 0)), none]) (st' := [.int (nI p), .ref 112]) (I' := I) (J' := J) rfl ?_
              refine EV_iald (j := p) C (by decide +kernel) rfl (nI_toInt (by omega)) (by omega) ?_
              refine EV_blk (own := 4) C rfl [(.bipush 48, 0, 0, 0, (nI 48)), (.isub, 0, 0, 0, 0), (.istore 5, 0, 0, 0, 0), (.iload_n 3, 0, 0, 0, 0)] (pc' := 86) (by decide +kernel) (lv' := [some (.ref 115), some (.ref 111), some (.int (nI p)), some (.int (nI 1)), some (.int (nI 0)), some (.int ((I 112 p) - (nI 48)))]) (st' := [.int (nI 1)]) (I' := I) (J' := J) rfl ?_
              refine EV_if_eq (off := 22) (tgt := 108) C (by decide +kernel) (by decide) (fun h21 => ?_) (fun h21 => ?_)
              · skip
                exact absurd h21 (by decide)
              · skip
                refine EV_blk (own := 4) C rfl [(.bipush 10, 0, 0, 0, (nI 10)), (.iload 5, 0, 0, 0, 0), (.imul, 0, 0, 0, 0), (.aload_n 1, 0, 0, 0, 0), (.getfield 41, 0, 0, 310, 0), (.iload_n 2, 0, 0, 0, 0), (.iconst 1, 0, 0, 0, (nI 1)), (.iadd, 0, 0, 0, 0)] (pc' := 101) (by decide +kernel) (lv' := [some (.ref 115), some (.ref 111), some (.int (nI p)), some (.int (nI 1)), some (.int (nI 0)), some (.int ((I 112 p) - (nI 48)))]) (st' := [.int ((nI p) + (nI 1)), .ref 112, .int ((nI 10) * ((I 112 p) - (nI 48)))]) (I' := I) (J' := J) rfl ?_
                refine EV_iald (j := (p + 1)) C (by decide +kernel) rfl (tq_toI (p + 1) (by simp (disch := omega) only [nI_add, tq_mul, tq_rem_nI, tq_div_nI, tq_sub_nI]) (by omega)) (by omega) ?_
                refine EV_blk (own := 4) C rfl [(.iadd, 0, 0, 0, 0), (.bipush 48, 0, 0, 0, (nI 48)), (.isub, 0, 0, 0, 0), (.istore 5, 0, 0, 0, 0), (.iload 4, 0, 0, 0, 0)] (pc' := 110) (by decide +kernel) (lv' := [some (.ref 115), some (.ref 111), some (.int (nI p)), some (.int (nI 1)), some (.int (nI 0)), some (.int ((((nI 10) * ((I 112 p) - (nI 48))) + (I 112 (p + 1))) - (nI 48)))]) (st' := [.int (nI 0)]) (I' := I) (J' := J) rfl ?_
                refine EV_if_ne (off := 14) (tgt := 124) C (by decide +kernel) (by decide) (fun h22 => ?_) (fun h22 => ?_)
                · skip
                  exact absurd (by decide) h22
                · skip
                  refine EV_blk (own := 4) C rfl [(.iload 5, 0, 0, 0, 0), (.iconst 1, 0, 0, 0, (nI 1)), (.bipush 11, 0, 0, 0, (nI 11))] (pc' := 118) (by decide +kernel) (lv' := [some (.ref 115), some (.ref 111), some (.int (nI p)), some (.int (nI 1)), some (.int (nI 0)), some (.int ((((nI 10) * ((I 112 p) - (nI 48))) + (I 112 (p + 1))) - (nI 48)))]) (st' := [.int (nI 11), .int (nI 1), .int ((((nI 10) * ((I 112 p) - (nI 48))) + (I 112 (p + 1))) - (nI 48))]) (I' := I) (J' := J) rfl ?_
                  refine EV_cS (own := 4) (idx := 62) (μ' := mX11_isWithin) (av := [.int ((((nI 10) * ((I 112 p) - (nI 48))) + (I 112 (p + 1))) - (nI 48)), .int (nI 1), .int (nI 11)]) (rest := []) C hR rfl (Or.inr ⟨817, by decide⟩) kX11_isWithin sX11_isWithin (c_X11_isWithin g rest I J ((((nI 10) * ((I 112 p) - (nI 48))) + (I 112 (p + 1))) - (nI 48)) (nI 1) (nI 11) ) (by decide +kernel) rfl (by decide) (Nat.le_of_ble_eq_true rfl) rfl ⟨Nat.zero_le _, Nat.zero_le _⟩ ?_
                  refine EV_if_ne (off := 5) (tgt := 126) C (by decide +kernel) (by decide) (fun h23 => ?_) (fun h23 => ?_)
                  · skip
                    refine EV_blk (own := 4) C rfl [(.aload_n 0, 0, 0, 0, 0), (.iload 5, 0, 0, 0, 0), (.putfield 25, 4, 4, 333, 0), (.iload_n 3, 0, 0, 0, 0)] (pc' := 133) (by decide +kernel) (lv' := [some (.ref 115), some (.ref 111), some (.int (nI p)), some (.int (nI 1)), some (.int (nI 0)), some (.int ((((nI 10) * ((I 112 p) - (nI 48))) + (I 112 (p + 1))) - (nI 48)))]) (st' := [.int (nI 1)]) (I' := (tq_u I 115 4 ((((nI 10) * ((I 112 p) - (nI 48))) + (I 112 (p + 1))) - (nI 48)))) (J' := J) rfl ?_
                    refine EV_if_eq (off := 7) (tgt := 140) C (by decide +kernel) (by decide) (fun h24 => ?_) (fun h24 => ?_)
                    · skip
                      exact absurd h24 (by decide)
                    · skip
                      refine EV_blk (own := 4) C rfl [(.iconst 2, 0, 0, 0, (nI 2)), (.goto 4, 0, 0, 0, 0)] (pc' := 141) (by decide +kernel) (lv' := [some (.ref 115), some (.ref 111), some (.int (nI p)), some (.int (nI 1)), some (.int (nI 0)), some (.int ((((nI 10) * ((I 112 p) - (nI 48))) + (I 112 (p + 1))) - (nI 48)))]) (st' := [.int (nI 2)]) (I' := (tq_u I 115 4 ((((nI 10) * ((I 112 p) - (nI 48))) + (I 112 (p + 1))) - (nI 48)))) (J' := J) rfl ?_
                      exact EV_iret C hZ rfl (by decide +kernel) (Nat.le_refl _) (Nat.le_refl _) ⟨tq_some (by simp only [r_X4_acceptNumber, if_pos h1, if_neg h2, if_neg h8, if_neg h14, if_neg h15, if_pos h20, if_neg h21, if_pos h22, if_neg h23, if_neg h24]), rfl, rfl, by simp only [I_X4_acceptNumber, if_pos h1, if_neg h2, if_neg h8, if_neg h14, if_neg h15, if_pos h20, if_neg h21, if_pos h22, if_neg h23, if_neg h24], rfl⟩
                  · skip
                    refine EV_blk (own := 4) C rfl [(.iconst 0, 0, 0, 0, (nI 0))] (pc' := 125) (by decide +kernel) (lv' := [some (.ref 115), some (.ref 111), some (.int (nI p)), some (.int (nI 1)), some (.int (nI 0)), some (.int ((((nI 10) * ((I 112 p) - (nI 48))) + (I 112 (p + 1))) - (nI 48)))]) (st' := [.int (nI 0)]) (I' := I) (J' := J) rfl ?_
                    exact EV_iret C hZ rfl (by decide +kernel) (Nat.le_refl _) (Nat.le_refl _) ⟨tq_some (by simp only [r_X4_acceptNumber, if_pos h1, if_neg h2, if_neg h8, if_neg h14, if_neg h15, if_pos h20, if_neg h21, if_pos h22, if_pos h23]), rfl, rfl, by simp only [I_X4_acceptNumber, if_pos h1, if_neg h2, if_neg h8, if_neg h14, if_neg h15, if_pos h20, if_neg h21, if_pos h22, if_pos h23], rfl⟩
            · skip
              refine EV_blk (own := 4) C rfl [(.iconst 1, 0, 0, 0, (nI 1)), (.goto 4, 0, 0, 0, 0), (.istore 4, 0, 0, 0, 0), (.aload_n 1, 0, 0, 0, 0), (.getfield 41, 0, 0, 310, 0), (.iload_n 2, 0, 0, 0, 0)] (pc' := 79) (by decide +kernel) (lv' := [some (.ref 115), some (.ref 111), some (.int (nI p)), some (.int (nI 1)), some (.int (nI 1)), none]) (st' := [.int (nI p), .ref 112]) (I' := I) (J' := J) rfl ?_
              refine EV_iald (j := p) C (by decide +kernel) rfl (nI_toInt (by omega)) (by omega) ?_
              refine EV_blk (own := 4) C rfl [(.bipush 48, 0, 0, 0, (nI 48)), (.isub, 0, 0, 0, 0), (.istore 5, 0, 0, 0, 0), (.iload_n 3, 0, 0, 0, 0)] (pc' := 86) (by decide +kernel) (lv' := [some (.ref 115), some (.ref 111), some (.int (nI p)), some (.int (nI 1)), some (.int (nI 1)), some (.int ((I 112 p) - (nI 48)))]) (st' := [.int (nI 1)]) (I' := I) (J' := J) rfl ?_
              refine EV_if_eq (off := 22) (tgt := 108) C (by decide +kernel) (by decide) (fun h25 => ?_) (fun h25 => ?_)
              · skip
                exact absurd h25 (by decide)
              · skip
                refine EV_blk (own := 4) C rfl [(.bipush 10, 0, 0, 0, (nI 10)), (.iload 5, 0, 0, 0, 0), (.imul, 0, 0, 0, 0), (.aload_n 1, 0, 0, 0, 0), (.getfield 41, 0, 0, 310, 0), (.iload_n 2, 0, 0, 0, 0), (.iconst 1, 0, 0, 0, (nI 1)), (.iadd, 0, 0, 0, 0)] (pc' := 101) (by decide +kernel) (lv' := [some (.ref 115), some (.ref 111), some (.int (nI p)), some (.int (nI 1)), some (.int (nI 1)), some (.int ((I 112 p) - (nI 48)))]) (st' := [.int ((nI p) + (nI 1)), .ref 112, .int ((nI 10) * ((I 112 p) - (nI 48)))]) (I' := I) (J' := J) rfl ?_
                refine EV_iald (j := (p + 1)) C (by decide +kernel) rfl (tq_toI (p + 1) (by simp (disch := omega) only [nI_add, tq_mul, tq_rem_nI, tq_div_nI, tq_sub_nI]) (by omega)) (by omega) ?_
                refine EV_blk (own := 4) C rfl [(.iadd, 0, 0, 0, 0), (.bipush 48, 0, 0, 0, (nI 48)), (.isub, 0, 0, 0, 0), (.istore 5, 0, 0, 0, 0), (.iload 4, 0, 0, 0, 0)] (pc' := 110) (by decide +kernel) (lv' := [some (.ref 115), some (.ref 111), some (.int (nI p)), some (.int (nI 1)), some (.int (nI 1)), some (.int ((((nI 10) * ((I 112 p) - (nI 48))) + (I 112 (p + 1))) - (nI 48)))]) (st' := [.int (nI 1)]) (I' := I) (J' := J) rfl ?_
                refine EV_if_ne (off := 14) (tgt := 124) C (by decide +kernel) (by decide) (fun h26 => ?_) (fun h26 => ?_)
                · skip
                  refine EV_blk (own := 4) C rfl [(.iconst 0, 0, 0, 0, (nI 0))] (pc' := 125) (by decide +kernel) (lv' := [some (.ref 115), some (.ref 111), some (.int (nI p)), some (.int (nI 1)), some (.int (nI 1)), some (.int ((((nI 10) * ((I 112 p) - (nI 48))) + (I 112 (p + 1))) - (nI 48)))]) (st' := [.int (nI 0)]) (I' := I) (J' := J) rfl ?_
                  exact EV_iret C hZ rfl (by decide +kernel) (Nat.le_refl _) (Nat.le_refl _) ⟨tq_some (by simp only [r_X4_acceptNumber, if_pos h1, if_neg h2, if_neg h8, if_neg h14, if_neg h15, if_neg h20, if_neg h25, if_neg h26]), rfl, rfl, by simp only [I_X4_acceptNumber, if_pos h1, if_neg h2, if_neg h8, if_neg h14, if_neg h15, if_neg h20, if_neg h25, if_neg h26], rfl⟩
                · skip
                  exact absurd h26 (by decide)
  · skip
    refine EV_blk (own := 4) C rfl [(.iconst 0, 0, 0, 0, (nI 0))] (pc' := 8) (by decide +kernel) (lv' := [some (.ref 115), some (.ref 111), some (.int (nI p)), none, none, none]) (st' := [.int (nI 0)]) (I' := I) (J' := J) rfl ?_
    exact EV_iret C hZ rfl (by decide +kernel) (Nat.le_refl _) (Nat.le_refl _) ⟨tq_some (by simp only [r_X4_acceptNumber, if_neg h1]), rfl, rfl, by simp only [I_X4_acceptNumber, if_neg h1], rfl⟩
theorem fr_X4_acceptNumber (I : tq_I) (p L : Nat) {cz : Nat} (hc : cz ≠ 115) (jz : Nat) : I_X4_acceptNumber I p L cz jz = I cz jz := by
  have hc0 := hc
  simp only [I_X4_acceptNumber]
  (repeat' split) <;> simp (disch := first | assumption | (simp only [ne_eq] at *; simp [*])) [tq_u, tq_cp, hc0, fr_tb1, fr_tb2, fr_X8_touchBlock, fr_X8_touchAll, fr_X8_changeCorner, fr_X8_changePath, fr_cb1, fr_cb2, fr_X8_changeBlock, fr_wipe1, fr_X1_wipe, fr_sm1, fr_sm2, fr_X8_startMap, fr_X6_place, fr_mt1, fr_mt2, fr_X6_moveTo, fr_ch2, fr_X10_choose, fr_X1_take, fr_fgt1, fr_X5_forget, fr_X5_meet, fr_gat1, fr_X5_gather, fr_dl1, fr_dl2, fr_X7_drawLayers, fr_dp1, fr_X7_drawPieces, fr_dr1, fr_X7_draw, fr_X9_add, fr_ac1, fr_X9_addCell, fr_tk0, fr_tk1, fr_tk2, fr_X9_take, fr_append111, fr_append113, fr_X4_acceptRowEnd]
/-- the reader's numbers are small -/
def tq_mr (I : tq_I) : Prop := (0 ≤ (I 115 1).toInt ∧ (I 115 1).toInt ≤ 10) ∧ (0 ≤ (I 115 2).toInt ∧ (I 115 2).toInt ≤ 11) ∧ (0 ≤ (I 115 3).toInt ∧ (I 115 3).toInt ≤ 11) ∧ 0 ≤ (I 115 4).toInt ∧ (I 115 4).toInt ≤ 11
theorem tq_mx {a b : Int32} (ha : 0 ≤ a.toInt) (hb : 0 ≤ b.toInt) : a + (if b < nI 1 then nI 1 else b) = nI (tq_N a + max (tq_N b) 1) := by
  have e1 := tq_nIN ha
  have e2 := tq_nIN hb
  have e3 : (nI 1).toInt = 1 := by decide
  by_cases h : b < nI 1
  · rw [if_pos h]
    have h2 := Int32.lt_iff_toInt_lt.mp h
    have : max (tq_N b) 1 = 1 := by unfold tq_N; omega
    rw [this, ← nI_add, ← e1]
  · rw [if_neg h]
    have h2 : ¬ b.toInt < (nI 1).toInt := fun q => h (Int32.lt_iff_toInt_lt.mpr q)
    have : max (tq_N b) 1 = tq_N b := by unfold tq_N; omega
    rw [this, ← nI_add, ← e1, ← e2]
def f_al1 (t : Int32) (ro co e : Nat) (i : Nat) (a : tq_I) : tq_I := (tq_u a 116 (ro * 11 + (co + i)) t)
set_option maxRecDepth 20000 in
theorem lp_al1 {g : tq_G} {rest : List tq_S} {x0 : tq_X} (C : tq_C g mX4_acceptLetter x0) (hR : tq_ht x0 1 0 0) (J : Int64) (t : Int32) (ro co e : Nat) (hro : ro ≤ 10) (hce : co ≤ e) (he : e ≤ 11) : ∀ (n i : Nat) (a : tq_I), i + n = e - co → a 115 1 = nI ro → EV g mX4_acceptLetter x0 0 0 66 [some (.ref 115), some (.int t), some (.int (nI e)), some (.int (nI (co + (i + n))))] [] (tq_SC ++ rest) tq_RR (tq_it (f_al1 t ro co e) n i a) J → EV g mX4_acceptLetter x0 0 0 41 [some (.ref 115), some (.int t), some (.int (nI e)), some (.int (nI (co + i)))] [] (tq_SC ++ rest) tq_RR a J := by
  intro n
  induction n with
  | zero =>
    intro i a hi hI kk
    rw [Nat.add_zero] at kk
    refine EV_blk (own := 4) C rfl [(.iload_n 3, 0, 0, 0, 0), (.iload_n 2, 0, 0, 0, 0)] (pc' := 43) (by decide +kernel) (lv' := [some (.ref 115), some (.int t), some (.int (nI e)), some (.int (nI (co + i)))]) (st' := [.int (nI e), .int (nI (co + i))]) (I' := a) (J' := J) rfl ?_
    refine EV_icmp_ge (off := 23) (tgt := 66) C (by decide +kernel) (by decide) (fun h1 => ?_) (fun h1 => ?_)
    · skip
      exact kk
    · skip
      exact absurd h1 (by simp (disch := omega) only [Int32.lt_iff_toInt_lt, Int32.le_iff_toInt_le, Int32.toInt_zero, nI_toInt, tq_m1]; omega)
  | succ n ih =>
    intro i a hi hI kk
    rw [show i + (n + 1) = (i + 1) + n by omega] at kk
    refine EV_blk (own := 4) C rfl [(.iload_n 3, 0, 0, 0, 0), (.iload_n 2, 0, 0, 0, 0)] (pc' := 43) (by decide +kernel) (lv' := [some (.ref 115), some (.int t), some (.int (nI e)), some (.int (nI (co + i)))]) (st' := [.int (nI e), .int (nI (co + i))]) (I' := a) (J' := J) rfl ?_
    refine EV_icmp_ge (off := 23) (tgt := 66) C (by decide +kernel) (by decide) (fun h1 => ?_) (fun h1 => ?_)
    · skip
      exact absurd h1 (by simp (disch := omega) only [Int32.lt_iff_toInt_lt, Int32.le_iff_toInt_le, Int32.toInt_zero, nI_toInt, tq_m1]; omega)
    · skip
      refine EV_blk (own := 4) C rfl [(.aload_n 0, 0, 0, 0, 0), (.getfield 9, 4, 0, 326, 0), (.iload_n 3, 0, 0, 0, 0), (.aload_n 0, 0, 0, 0, 0), (.getfield 15, 4, 1, 328, 0)] (pc' := 55) (by decide +kernel) (lv' := [some (.ref 115), some (.int t), some (.int (nI e)), some (.int (nI (co + i)))]) (st' := [.int (a 115 1), .int (nI (co + i)), .ref 116]) (I' := a) (J' := J) rfl ?_
      refine EV_ste (st' := [.int (nI ro), .int (nI (co + i)), .ref 116]) (by rw [hI]) ?_
      refine EV_cS (own := 4) (idx := 72) (μ' := mX11_cornerIndex) (av := [.int (nI (co + i)), .int (nI ro)]) (rest := [.ref 116]) C hR rfl (Or.inr ⟨836, by decide⟩) kX11_cornerIndex sX11_cornerIndex (c_X11_cornerIndex g rest a J (co + i) ro ) (by decide +kernel) rfl (by decide) (Nat.le_of_ble_eq_true rfl) rfl ⟨Nat.zero_le _, Nat.zero_le _⟩ ?_
      refine EV_blk (own := 4) C rfl [(.iload_n 1, 0, 0, 0, 0)] (pc' := 59) (by decide +kernel) (lv' := [some (.ref 115), some (.int t), some (.int (nI e)), some (.int (nI (co + i)))]) (st' := [.int t, .int (nI (ro * 11 + (co + i))), .ref 116]) (I' := a) (J' := J) rfl ?_
      refine EV_iast (j := (ro * 11 + (co + i))) C (by decide +kernel) rfl (nI_toInt (by omega)) (by omega) ?_
      refine EV_blk (own := 4) C rfl [(.iinc 3 1, 0, 0, 0, (nI 1)), (.goto (-22), 0, 0, 0, 0)] (pc' := 41) (by decide +kernel) (lv' := [some (.ref 115), some (.int t), some (.int (nI e)), some (.int ((nI (co + i)) + (nI 1)))]) (st' := []) (I' := (tq_u a 116 (ro * 11 + (co + i)) t)) (J' := J) rfl ?_
      rw [show ((nI (co + i)) + (nI 1)) = (nI (co + (i + 1))) from by simp (disch := omega) only [nI_add, tq_mul] <;> exact congrArg nI (by omega)]
      rw [tq_its, show (f_al1 t ro co e) i a = (tq_u a 116 (ro * 11 + (co + i)) t) from by simp only [f_al1, if_neg h1]] at kk
      exact ih (i + 1) (tq_u a 116 (ro * 11 + (co + i)) t) (by omega) hI kk
theorem fr_al1 (t : Int32) (ro co e : Nat) {cz : Nat} (hc : cz ≠ 116) (n i : Nat) (a : tq_I) (jz : Nat) : (tq_it (f_al1 t ro co e) n i a) cz jz = a cz jz := by
  have hc0 := hc
  refine tq_itF (fun i a j => ?_) n i a jz
  simp only [f_al1]
  (repeat' split) <;> simp (disch := first | assumption | (simp only [ne_eq] at *; simp [*])) [tq_u, tq_cp, hc0, fr_tb1, fr_tb2, fr_X8_touchBlock, fr_X8_touchAll, fr_X8_changeCorner, fr_X8_changePath, fr_cb1, fr_cb2, fr_X8_changeBlock, fr_wipe1, fr_X1_wipe, fr_sm1, fr_sm2, fr_X8_startMap, fr_X6_place, fr_mt1, fr_mt2, fr_X6_moveTo, fr_ch2, fr_X10_choose, fr_X1_take, fr_fgt1, fr_X5_forget, fr_X5_meet, fr_gat1, fr_X5_gather, fr_dl1, fr_dl2, fr_X7_drawLayers, fr_dp1, fr_X7_drawPieces, fr_dr1, fr_X7_draw, fr_X9_add, fr_ac1, fr_X9_addCell, fr_tk0, fr_tk1, fr_tk2, fr_X9_take, fr_append111, fr_append113, fr_X4_acceptRowEnd, fr_X4_acceptNumber]
def r_X4_acceptLetter (I : tq_I) (t : Int32) : Int32 := (if (I 115 1) = 0 then (if (nI (tq_N (I 115 2) + max (tq_N (I 115 4)) 1)) ≤ (nI 11) then (nI 1) else (nI 0)) else (if (nI (tq_N (I 115 2) + max (tq_N (I 115 4)) 1)) ≤ (I 115 3) then (nI 1) else (nI 0)))
def I_X4_acceptLetter (I : tq_I) (t : Int32) : tq_I := (if (I 115 1) = 0 then (if (nI (tq_N (I 115 2) + max (tq_N (I 115 4)) 1)) ≤ (nI 11) then (tq_u (tq_u (tq_it (f_al1 t (tq_N (I 115 1)) (tq_N (I 115 2)) (tq_N (I 115 2) + max (tq_N (I 115 4)) 1)) (tq_N (I 115 2) + max (tq_N (I 115 4)) 1 - tq_N (I 115 2)) 0 I) 115 2 (nI (tq_N (I 115 2) + max (tq_N (I 115 4)) 1))) 115 4 (nI 0)) else I) else (if (nI (tq_N (I 115 2) + max (tq_N (I 115 4)) 1)) ≤ (I 115 3) then (tq_u (tq_u (tq_it (f_al1 t (tq_N (I 115 1)) (tq_N (I 115 2)) (tq_N (I 115 2) + max (tq_N (I 115 4)) 1)) (tq_N (I 115 2) + max (tq_N (I 115 4)) 1 - tq_N (I 115 2)) 0 I) 115 2 (nI (tq_N (I 115 2) + max (tq_N (I 115 4)) 1))) 115 4 (nI 0)) else I))
set_option maxRecDepth 20000 in
theorem c_X4_acceptLetter (g : tq_G) (rest : List tq_S) (I : tq_I) (J : Int64) (t : Int32) (hI : tq_mr I) : CT g mX4_acceptLetter 1 0 0 [.ref 115, .int t] (tq_SC ++ rest) tq_RR I J (tq_ret (tq_SC ++ rest) tq_RR (some (.int (r_X4_acceptLetter I t))) (I_X4_acceptLetter I t) J) := by
  refine CT.ret kX4_acceptLetter (Nat.le_of_ble_eq_true rfl) (fun x0 C hR hZ => ?_)
  refine EV_en (lv' := [some (.ref 115), some (.int t), none, none]) 2 rfl ?_
  refine EV_blk (own := 4) C rfl [(.aload_n 0, 0, 0, 0, 0), (.getfield 19, 4, 2, 330, 0), (.aload_n 0, 0, 0, 0, 0), (.getfield 25, 4, 4, 333, 0), (.iconst 1, 0, 0, 0, (nI 1))] (pc' := 9) (by decide +kernel) (lv' := [some (.ref 115), some (.int t), none, none]) (st' := [.int (nI 1), .int (I 115 4), .int (I 115 2)]) (I' := I) (J' := J) rfl ?_
  refine EV_max (own := 4) (idx := 66) (pl := 835) C hR rfl (by decide) (by decide +kernel) (by decide) (Nat.le_of_ble_eq_true rfl) (Nat.zero_le _) (Nat.zero_le _) ?_
  refine EV_blk (own := 4) C rfl [(.iadd, 0, 0, 0, 0), (.istore_n 2, 0, 0, 0, 0)] (pc' := 14) (by decide +kernel) (lv' := [some (.ref 115), some (.int t), some (.int ((I 115 2) + (if (I 115 4) < (nI 1) then (nI 1) else (I 115 4)))), none]) (st' := []) (I' := I) (J' := J) rfl ?_
  refine EV_lve (lv' := [some (.ref 115), some (.int t), some (.int (nI (tq_N (I 115 2) + max (tq_N (I 115 4)) 1))), none]) (by rw [tq_mx hI.2.1.1 hI.2.2.2.1]) ?_
  refine EV_blk (own := 4) C rfl [(.iload_n 2, 0, 0, 0, 0), (.aload_n 0, 0, 0, 0, 0), (.getfield 15, 4, 1, 328, 0)] (pc' := 19) (by decide +kernel) (lv' := [some (.ref 115), some (.int t), some (.int (nI (tq_N (I 115 2) + max (tq_N (I 115 4)) 1))), none]) (st' := [.int (I 115 1), .int (nI (tq_N (I 115 2) + max (tq_N (I 115 4)) 1))]) (I' := I) (J' := J) rfl ?_
  refine EV_if_ne (off := 8) (tgt := 27) C (by decide +kernel) (by decide) (fun h1 => ?_) (fun h1 => ?_)
  · skip
    refine EV_blk (own := 4) C rfl [(.aload_n 0, 0, 0, 0, 0), (.getfield 22, 4, 3, 331, 0)] (pc' := 31) (by decide +kernel) (lv' := [some (.ref 115), some (.int t), some (.int (nI (tq_N (I 115 2) + max (tq_N (I 115 4)) 1))), none]) (st' := [.int (I 115 3), .int (nI (tq_N (I 115 2) + max (tq_N (I 115 4)) 1))]) (I' := I) (J' := J) rfl ?_
    refine EV_icmp_le (off := 5) (tgt := 36) C (by decide +kernel) (by decide) (fun h2 => ?_) (fun h2 => ?_)
    · skip
      refine EV_blk (own := 4) C rfl [(.aload_n 0, 0, 0, 0, 0), (.getfield 19, 4, 2, 330, 0), (.istore_n 3, 0, 0, 0, 0)] (pc' := 41) (by decide +kernel) (lv' := [some (.ref 115), some (.int t), some (.int (nI (tq_N (I 115 2) + max (tq_N (I 115 4)) 1))), some (.int (I 115 2))]) (st' := []) (I' := I) (J' := J) rfl ?_
      refine EV_lve (lv' := [some (.ref 115), some (.int t), some (.int (nI (tq_N (I 115 2) + max (tq_N (I 115 4)) 1))), some (.int (nI (tq_N (I 115 2) + 0)))]) (by rw [Nat.add_zero, ← tq_nIN hI.2.1.1]) ?_
      have hee : tq_N (I 115 2) + max (tq_N (I 115 4)) 1 ≤ 11 := by
        have hN : tq_N (I 115 4) ≤ 11 := by have := hI.2.2.2; unfold tq_N; omega
        have hM : tq_N (I 115 2) ≤ 11 := by have := hI.2.1; unfold tq_N; omega
        have hq := h2
        have h3 := hI.2.2.1
        simp (disch := omega) only [Int32.le_iff_toInt_le, nI_toInt] at hq
        omega
      refine lp_al1 C hR J t (tq_N (I 115 1)) (tq_N (I 115 2)) (tq_N (I 115 2) + max (tq_N (I 115 4)) 1) (by have := hI.1; unfold tq_N; omega) (by omega) hee (tq_N (I 115 2) + max (tq_N (I 115 4)) 1 - tq_N (I 115 2)) 0 I (by omega) (tq_nIN hI.1.1) ?_
      refine EV_blk (own := 4) C rfl [(.aload_n 0, 0, 0, 0, 0), (.iload_n 2, 0, 0, 0, 0), (.putfield 19, 4, 2, 330, 0), (.aload_n 0, 0, 0, 0, 0), (.iconst 0, 0, 0, 0, (nI 0)), (.putfield 25, 4, 4, 333, 0), (.iconst 1, 0, 0, 0, (nI 1))] (pc' := 77) (by decide +kernel) (lv' := [some (.ref 115), some (.int t), some (.int (nI (tq_N (I 115 2) + max (tq_N (I 115 4)) 1))), some (.int (nI ((tq_N (I 115 2)) + (0 + (tq_N (I 115 2) + max (tq_N (I 115 4)) 1 - tq_N (I 115 2))))))]) (st' := [.int (nI 1)]) (I' := (tq_u (tq_u (tq_it (f_al1 t (tq_N (I 115 1)) (tq_N (I 115 2)) (tq_N (I 115 2) + max (tq_N (I 115 4)) 1)) (tq_N (I 115 2) + max (tq_N (I 115 4)) 1 - tq_N (I 115 2)) 0 I) 115 2 (nI (tq_N (I 115 2) + max (tq_N (I 115 4)) 1))) 115 4 (nI 0))) (J' := J) rfl ?_
      exact EV_iret C hZ rfl (by decide +kernel) (Nat.le_refl _) (Nat.le_refl _) ⟨tq_some (by simp only [r_X4_acceptLetter, if_neg h1, if_pos h2]), rfl, rfl, by simp only [I_X4_acceptLetter, if_neg h1, if_pos h2], rfl⟩
    · skip
      refine EV_blk (own := 4) C rfl [(.iconst 0, 0, 0, 0, (nI 0))] (pc' := 35) (by decide +kernel) (lv' := [some (.ref 115), some (.int t), some (.int (nI (tq_N (I 115 2) + max (tq_N (I 115 4)) 1))), none]) (st' := [.int (nI 0)]) (I' := I) (J' := J) rfl ?_
      exact EV_iret C hZ rfl (by decide +kernel) (Nat.le_refl _) (Nat.le_refl _) ⟨tq_some (by simp only [r_X4_acceptLetter, if_neg h1, if_neg h2]), rfl, rfl, by simp only [I_X4_acceptLetter, if_neg h1, if_neg h2], rfl⟩
  · skip
    refine EV_blk (own := 4) C rfl [(.bipush 11, 0, 0, 0, (nI 11)), (.goto 7, 0, 0, 0, 0)] (pc' := 31) (by decide +kernel) (lv' := [some (.ref 115), some (.int t), some (.int (nI (tq_N (I 115 2) + max (tq_N (I 115 4)) 1))), none]) (st' := [.int (nI 11), .int (nI (tq_N (I 115 2) + max (tq_N (I 115 4)) 1))]) (I' := I) (J' := J) rfl ?_
    refine EV_icmp_le (off := 5) (tgt := 36) C (by decide +kernel) (by decide) (fun h3 => ?_) (fun h3 => ?_)
    · skip
      refine EV_blk (own := 4) C rfl [(.aload_n 0, 0, 0, 0, 0), (.getfield 19, 4, 2, 330, 0), (.istore_n 3, 0, 0, 0, 0)] (pc' := 41) (by decide +kernel) (lv' := [some (.ref 115), some (.int t), some (.int (nI (tq_N (I 115 2) + max (tq_N (I 115 4)) 1))), some (.int (I 115 2))]) (st' := []) (I' := I) (J' := J) rfl ?_
      refine EV_lve (lv' := [some (.ref 115), some (.int t), some (.int (nI (tq_N (I 115 2) + max (tq_N (I 115 4)) 1))), some (.int (nI (tq_N (I 115 2) + 0)))]) (by rw [Nat.add_zero, ← tq_nIN hI.2.1.1]) ?_
      have hee : tq_N (I 115 2) + max (tq_N (I 115 4)) 1 ≤ 11 := by
        have hN : tq_N (I 115 4) ≤ 11 := by have := hI.2.2.2; unfold tq_N; omega
        have hM : tq_N (I 115 2) ≤ 11 := by have := hI.2.1; unfold tq_N; omega
        have hq := h3
        have h3 := hI.2.2.1
        simp (disch := omega) only [Int32.le_iff_toInt_le, nI_toInt] at hq
        omega
      refine lp_al1 C hR J t (tq_N (I 115 1)) (tq_N (I 115 2)) (tq_N (I 115 2) + max (tq_N (I 115 4)) 1) (by have := hI.1; unfold tq_N; omega) (by omega) hee (tq_N (I 115 2) + max (tq_N (I 115 4)) 1 - tq_N (I 115 2)) 0 I (by omega) (tq_nIN hI.1.1) ?_
      refine EV_blk (own := 4) C rfl [(.aload_n 0, 0, 0, 0, 0), (.iload_n 2, 0, 0, 0, 0), (.putfield 19, 4, 2, 330, 0), (.aload_n 0, 0, 0, 0, 0), (.iconst 0, 0, 0, 0, (nI 0)), (.putfield 25, 4, 4, 333, 0), (.iconst 1, 0, 0, 0, (nI 1))] (pc' := 77) (by decide +kernel) (lv' := [some (.ref 115), some (.int t), some (.int (nI (tq_N (I 115 2) + max (tq_N (I 115 4)) 1))), some (.int (nI ((tq_N (I 115 2)) + (0 + (tq_N (I 115 2) + max (tq_N (I 115 4)) 1 - tq_N (I 115 2))))))]) (st' := [.int (nI 1)]) (I' := (tq_u (tq_u (tq_it (f_al1 t (tq_N (I 115 1)) (tq_N (I 115 2)) (tq_N (I 115 2) + max (tq_N (I 115 4)) 1)) (tq_N (I 115 2) + max (tq_N (I 115 4)) 1 - tq_N (I 115 2)) 0 I) 115 2 (nI (tq_N (I 115 2) + max (tq_N (I 115 4)) 1))) 115 4 (nI 0))) (J' := J) rfl ?_
      exact EV_iret C hZ rfl (by decide +kernel) (Nat.le_refl _) (Nat.le_refl _) ⟨tq_some (by simp only [r_X4_acceptLetter, if_pos h1, if_pos h3]), rfl, rfl, by simp only [I_X4_acceptLetter, if_pos h1, if_pos h3], rfl⟩
    · skip
      refine EV_blk (own := 4) C rfl [(.iconst 0, 0, 0, 0, (nI 0))] (pc' := 35) (by decide +kernel) (lv' := [some (.ref 115), some (.int t), some (.int (nI (tq_N (I 115 2) + max (tq_N (I 115 4)) 1))), none]) (st' := [.int (nI 0)]) (I' := I) (J' := J) rfl ?_
      exact EV_iret C hZ rfl (by decide +kernel) (Nat.le_refl _) (Nat.le_refl _) ⟨tq_some (by simp only [r_X4_acceptLetter, if_pos h1, if_neg h3]), rfl, rfl, by simp only [I_X4_acceptLetter, if_pos h1, if_neg h3], rfl⟩
theorem fr_X4_acceptLetter (I : tq_I) (t : Int32) {cz : Nat} (hc : cz ≠ 115 ∧ cz ≠ 116) (jz : Nat) : I_X4_acceptLetter I t cz jz = I cz jz := by
  obtain ⟨hc0, hc1⟩ := hc
  simp only [I_X4_acceptLetter]
  (repeat' split) <;> simp (disch := first | assumption | (simp only [ne_eq] at *; simp [*])) [tq_u, tq_cp, hc0, hc1, fr_tb1, fr_tb2, fr_X8_touchBlock, fr_X8_touchAll, fr_X8_changeCorner, fr_X8_changePath, fr_cb1, fr_cb2, fr_X8_changeBlock, fr_wipe1, fr_X1_wipe, fr_sm1, fr_sm2, fr_X8_startMap, fr_X6_place, fr_mt1, fr_mt2, fr_X6_moveTo, fr_ch2, fr_X10_choose, fr_X1_take, fr_fgt1, fr_X5_forget, fr_X5_meet, fr_gat1, fr_X5_gather, fr_dl1, fr_dl2, fr_X7_drawLayers, fr_dp1, fr_X7_drawPieces, fr_dr1, fr_X7_draw, fr_X9_add, fr_ac1, fr_X9_addCell, fr_tk0, fr_tk1, fr_tk2, fr_X9_take, fr_append111, fr_append113, fr_X4_acceptRowEnd, fr_X4_acceptNumber, fr_al1]
def r_X4_accept (I : tq_I) (p L : Nat) : Int32 := (if (I 112 p) = (nI 32) then (nI 1) else (if (tq_b ((nI 48).toInt ≤ (I 112 p).toInt ∧ (I 112 p).toInt ≤ (nI 57).toInt)) = 0 then (if (I 112 p) = (nI 47) then (r_X4_acceptRowEnd I) else (if (tq_b ((nI 0).toInt ≤ ((I 112 p) - (nI 97)).toInt ∧ ((I 112 p) - (nI 97)).toInt ≤ (nI 5).toInt)) = 0 then (nI 0) else (r_X4_acceptLetter I ((I 112 p) - (nI 97))))) else (r_X4_acceptNumber I p L)))
def I_X4_accept (I : tq_I) (p L : Nat) : tq_I := (if (I 112 p) = (nI 32) then I else (if (tq_b ((nI 48).toInt ≤ (I 112 p).toInt ∧ (I 112 p).toInt ≤ (nI 57).toInt)) = 0 then (if (I 112 p) = (nI 47) then (I_X4_acceptRowEnd I) else (if (tq_b ((nI 0).toInt ≤ ((I 112 p) - (nI 97)).toInt ∧ ((I 112 p) - (nI 97)).toInt ≤ (nI 5).toInt)) = 0 then I else (I_X4_acceptLetter I ((I 112 p) - (nI 97))))) else (I_X4_acceptNumber I p L)))
set_option maxRecDepth 20000 in
theorem c_X4_accept (g : tq_G) (rest : List tq_S) (I : tq_I) (J : Int64) (p L : Nat) (hp : p < L) (hL : I 111 1 = nI L) (hL150 : L ≤ 150) (hI : tq_mr I) : CT g mX4_accept 3 0 0 [.ref 115, .ref 111, .int (nI p)] (tq_SC ++ rest) tq_RR I J (tq_ret (tq_SC ++ rest) tq_RR (some (.int (r_X4_accept I p L))) (I_X4_accept I p L) J) := by
  refine CT.ret kX4_accept (Nat.le_of_ble_eq_true rfl) (fun x0 C hR hZ => ?_)
  refine EV_en (lv' := [some (.ref 115), some (.ref 111), some (.int (nI p)), none]) 1 rfl ?_
  refine EV_blk (own := 4) C rfl [(.aload_n 1, 0, 0, 0, 0), (.getfield 41, 0, 0, 310, 0), (.iload_n 2, 0, 0, 0, 0)] (pc' := 5) (by decide +kernel) (lv' := [some (.ref 115), some (.ref 111), some (.int (nI p)), none]) (st' := [.int (nI p), .ref 112]) (I' := I) (J' := J) rfl ?_
  refine EV_iald (j := p) C (by decide +kernel) rfl (nI_toInt (by omega)) (by omega) ?_
  refine EV_blk (own := 4) C rfl [(.istore_n 3, 0, 0, 0, 0), (.iload_n 3, 0, 0, 0, 0), (.bipush 32, 0, 0, 0, (nI 32))] (pc' := 10) (by decide +kernel) (lv' := [some (.ref 115), some (.ref 111), some (.int (nI p)), some (.int (I 112 p))]) (st' := [.int (nI 32), .int (I 112 p)]) (I' := I) (J' := J) rfl ?_
  refine EV_icmp_ne (off := 5) (tgt := 15) C (by decide +kernel) (by decide) (fun h1 => ?_) (fun h1 => ?_)
  · skip
    refine EV_blk (own := 4) C rfl [(.iload_n 3, 0, 0, 0, 0)] (pc' := 16) (by decide +kernel) (lv' := [some (.ref 115), some (.ref 111), some (.int (nI p)), some (.int (I 112 p))]) (st' := [.int (I 112 p)]) (I' := I) (J' := J) rfl ?_
    refine EV_cS (own := 4) (idx := 44) (μ' := mX4_isDigit) (av := [.int (I 112 p)]) (rest := []) C hR rfl (Or.inl ⟨814, by decide⟩) kX4_isDigit sX4_isDigit (c_X4_isDigit g rest I J (I 112 p) ) (by decide +kernel) rfl (by decide) (Nat.le_of_ble_eq_true rfl) rfl ⟨Nat.zero_le _, Nat.zero_le _⟩ ?_
    refine EV_if_eq (off := 10) (tgt := 29) C (by decide +kernel) (by decide) (fun h2 => ?_) (fun h2 => ?_)
    · skip
      refine EV_blk (own := 4) C rfl [(.iload_n 3, 0, 0, 0, 0), (.bipush 47, 0, 0, 0, (nI 47))] (pc' := 32) (by decide +kernel) (lv' := [some (.ref 115), some (.ref 111), some (.int (nI p)), some (.int (I 112 p))]) (st' := [.int (nI 47), .int (I 112 p)]) (I' := I) (J' := J) rfl ?_
      refine EV_icmp_ne (off := 8) (tgt := 40) C (by decide +kernel) (by decide) (fun h3 => ?_) (fun h3 => ?_)
      · skip
        refine EV_blk (own := 4) C rfl [(.iload_n 3, 0, 0, 0, 0), (.bipush 97, 0, 0, 0, (nI 97)), (.isub, 0, 0, 0, 0)] (pc' := 44) (by decide +kernel) (lv' := [some (.ref 115), some (.ref 111), some (.int (nI p)), some (.int (I 112 p))]) (st' := [.int ((I 112 p) - (nI 97))]) (I' := I) (J' := J) rfl ?_
        refine EV_cS (own := 4) (idx := 55) (μ' := mX11_isTerrain) (av := [.int ((I 112 p) - (nI 97))]) (rest := []) C hR rfl (Or.inr ⟨830, by decide⟩) kX11_isTerrain sX11_isTerrain (c_X11_isTerrain g rest I J ((I 112 p) - (nI 97)) ) (by decide +kernel) rfl (by decide) (Nat.le_of_ble_eq_true rfl) rfl ⟨Nat.zero_le _, Nat.zero_le _⟩ ?_
        refine EV_if_eq (off := 14) (tgt := 61) C (by decide +kernel) (by decide) (fun h4 => ?_) (fun h4 => ?_)
        · skip
          refine EV_blk (own := 4) C rfl [(.iconst 0, 0, 0, 0, (nI 0))] (pc' := 62) (by decide +kernel) (lv' := [some (.ref 115), some (.ref 111), some (.int (nI p)), some (.int (I 112 p))]) (st' := [.int (nI 0)]) (I' := I) (J' := J) rfl ?_
          exact EV_iret C hZ rfl (by decide +kernel) (Nat.le_refl _) (Nat.le_refl _) ⟨tq_some (by simp only [r_X4_accept, if_neg h1, if_pos h2, if_neg h3, if_pos h4]), rfl, rfl, by simp only [I_X4_accept, if_neg h1, if_pos h2, if_neg h3, if_pos h4], rfl⟩
        · skip
          refine EV_blk (own := 4) C rfl [(.aload_n 0, 0, 0, 0, 0), (.iload_n 3, 0, 0, 0, 0), (.bipush 97, 0, 0, 0, (nI 97)), (.isub, 0, 0, 0, 0)] (pc' := 55) (by decide +kernel) (lv' := [some (.ref 115), some (.ref 111), some (.int (nI p)), some (.int (I 112 p))]) (st' := [.int ((I 112 p) - (nI 97)), .ref 115]) (I' := I) (J' := J) rfl ?_
          refine EV_cV (own := 4) (idx := 58) (μ' := mX4_acceptLetter) (b := 115) (cb := 4) (av := [.int ((I 112 p) - (nI 97))]) (rest := []) C hR rfl (Or.inl ⟨831, by decide⟩) kX4_acceptLetter sX4_acceptLetter (c_X4_acceptLetter g rest I J ((I 112 p) - (nI 97)) hI) rfl rfl (by decide +kernel) rfl (by decide) (Nat.le_of_ble_eq_true rfl) rfl ⟨Nat.zero_le _, Nat.zero_le _⟩ ?_
          refine EV_blk (own := 4) C rfl [(.goto 4, 0, 0, 0, 0)] (pc' := 62) (by decide +kernel) (lv' := [some (.ref 115), some (.ref 111), some (.int (nI p)), some (.int (I 112 p))]) (st' := [.int (r_X4_acceptLetter I ((I 112 p) - (nI 97)))]) (I' := (I_X4_acceptLetter I ((I 112 p) - (nI 97)))) (J' := J) rfl ?_
          exact EV_iret C hZ rfl (by decide +kernel) (Nat.le_refl _) (Nat.le_refl _) ⟨tq_some (by simp only [r_X4_accept, if_neg h1, if_pos h2, if_neg h3, if_neg h4]), rfl, rfl, by simp only [I_X4_accept, if_neg h1, if_pos h2, if_neg h3, if_neg h4], rfl⟩
      · skip
        refine EV_blk (own := 4) C rfl [(.aload_n 0, 0, 0, 0, 0)] (pc' := 36) (by decide +kernel) (lv' := [some (.ref 115), some (.ref 111), some (.int (nI p)), some (.int (I 112 p))]) (st' := [.ref 115]) (I' := I) (J' := J) rfl ?_
        refine EV_cV (own := 4) (idx := 51) (μ' := mX4_acceptRowEnd) (b := 115) (cb := 4) (av := []) (rest := []) C hR rfl (Or.inl ⟨822, by decide⟩) kX4_acceptRowEnd sX4_acceptRowEnd (c_X4_acceptRowEnd g rest I J  ) rfl rfl (by decide +kernel) rfl (by decide) (Nat.le_of_ble_eq_true rfl) rfl ⟨Nat.zero_le _, Nat.zero_le _⟩ ?_
        exact EV_iret C hZ rfl (by decide +kernel) (Nat.le_refl _) (Nat.le_refl _) ⟨tq_some (by simp only [r_X4_accept, if_neg h1, if_pos h2, if_pos h3]), rfl, rfl, by simp only [I_X4_accept, if_neg h1, if_pos h2, if_pos h3], rfl⟩
    · skip
      refine EV_blk (own := 4) C rfl [(.aload_n 0, 0, 0, 0, 0), (.aload_n 1, 0, 0, 0, 0), (.iload_n 2, 0, 0, 0, 0)] (pc' := 25) (by decide +kernel) (lv' := [some (.ref 115), some (.ref 111), some (.int (nI p)), some (.int (I 112 p))]) (st' := [.int (nI p), .ref 111, .ref 115]) (I' := I) (J' := J) rfl ?_
      refine EV_cV (own := 4) (idx := 48) (μ' := mX4_acceptNumber) (b := 115) (cb := 4) (av := [.ref 111, .int (nI p)]) (rest := []) C hR rfl (Or.inl ⟨818, by decide⟩) kX4_acceptNumber sX4_acceptNumber (c_X4_acceptNumber g rest I J p L hp hL hL150) rfl rfl (by decide +kernel) rfl (by decide) (Nat.le_of_ble_eq_true rfl) rfl ⟨Nat.zero_le _, Nat.zero_le _⟩ ?_
      exact EV_iret C hZ rfl (by decide +kernel) (Nat.le_refl _) (Nat.le_refl _) ⟨tq_some (by simp only [r_X4_accept, if_neg h1, if_neg h2]), rfl, rfl, by simp only [I_X4_accept, if_neg h1, if_neg h2], rfl⟩
  · skip
    refine EV_blk (own := 4) C rfl [(.iconst 1, 0, 0, 0, (nI 1))] (pc' := 14) (by decide +kernel) (lv' := [some (.ref 115), some (.ref 111), some (.int (nI p)), some (.int (I 112 p))]) (st' := [.int (nI 1)]) (I' := I) (J' := J) rfl ?_
    exact EV_iret C hZ rfl (by decide +kernel) (Nat.le_refl _) (Nat.le_refl _) ⟨tq_some (by simp only [r_X4_accept, if_pos h1]), rfl, rfl, by simp only [I_X4_accept, if_pos h1], rfl⟩
theorem fr_X4_accept (I : tq_I) (p L : Nat) {cz : Nat} (hc : cz ≠ 115 ∧ cz ≠ 116) (jz : Nat) : I_X4_accept I p L cz jz = I cz jz := by
  obtain ⟨hc0, hc1⟩ := hc
  simp only [I_X4_accept]
  (repeat' split) <;> simp (disch := first | assumption | (simp only [ne_eq] at *; simp [*])) [tq_u, tq_cp, hc0, hc1, fr_tb1, fr_tb2, fr_X8_touchBlock, fr_X8_touchAll, fr_X8_changeCorner, fr_X8_changePath, fr_cb1, fr_cb2, fr_X8_changeBlock, fr_wipe1, fr_X1_wipe, fr_sm1, fr_sm2, fr_X8_startMap, fr_X6_place, fr_mt1, fr_mt2, fr_X6_moveTo, fr_ch2, fr_X10_choose, fr_X1_take, fr_fgt1, fr_X5_forget, fr_X5_meet, fr_gat1, fr_X5_gather, fr_dl1, fr_dl2, fr_X7_drawLayers, fr_dp1, fr_X7_drawPieces, fr_dr1, fr_X7_draw, fr_X9_add, fr_ac1, fr_X9_addCell, fr_tk0, fr_tk1, fr_tk2, fr_X9_take, fr_append111, fr_append113, fr_X4_acceptRowEnd, fr_X4_acceptNumber, fr_al1, fr_X4_acceptLetter]
theorem tq_mr_rowEnd {I : tq_I} (h : tq_mr I) : tq_mr (I_X4_acceptRowEnd I) := by
  obtain ⟨h1, h2, h3, h4⟩ := h
  unfold I_X4_acceptRowEnd
  split
  · split
    · exact ⟨h1, h2, h3, h4⟩
    · split
      · rename_i hr
        have hr2 : (I 115 1).toInt < 10 := by simp (disch := omega) only [Int32.lt_iff_toInt_lt, nI_toInt] at hr; omega
        have e := (tq_incr (m := 10) h1.1 (by omega) (by decide)).1
        split
        · refine ⟨?_, ?_, ?_, ?_⟩
          · show 0 ≤ (I 115 1 + nI 1).toInt ∧ (I 115 1 + nI 1).toInt ≤ 10
            omega
          · show 0 ≤ (nI 0).toInt ∧ (nI 0).toInt ≤ 11
            decide
          · show 0 ≤ (I 115 2).toInt ∧ (I 115 2).toInt ≤ 11
            exact h2
          · exact h4
        · refine ⟨?_, ?_, h3, h4⟩
          · show 0 ≤ (I 115 1 + nI 1).toInt ∧ (I 115 1 + nI 1).toInt ≤ 10
            omega
          · show 0 ≤ (nI 0).toInt ∧ (nI 0).toInt ≤ 11
            decide
      · exact ⟨h1, h2, h3, h4⟩
  · exact ⟨h1, h2, h3, h4⟩
