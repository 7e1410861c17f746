theorem tr_wrP_it {w h y : Nat} (hy : y ≤ 10) (hw : w ≤ 10) : ∀ (n i : Nat) (a : Int32 × tq_I), i + n = w + 1 → tr_wrP w h y i a → tr_wrP w h y (w + 1) (tq_it (f_mwr1 y w h) n i a)
  | 0, i, a, hi, k => by rw [show i = w + 1 by omega] at k; exact k
  | n + 1, i, a, hi, k => by
    refine tr_wrP_it hy hw n (i + 1) _ (by omega) ?_
    unfold f_mwr1
    (repeat' split) <;> first | exact k.put (by omega) hy | exact k.go (by omega)
def tr_wqP (w h i : Nat) (a : tq_I) : Prop := tr_wh a w h ∧ tr_out a (12 * i)
theorem tr_wqs {w h i : Nat} {a : tq_I} (k : tr_wqP w h i a) : tr_wrP w h i 0 (nI 0, a) := by
  unfold tr_wrP
  dsimp only
  refine ⟨k.1, by decide, k.2.1, ?_⟩
  rw [show tq_N (nI 0) = 0 from by decide]
  have := k.2.2
  omega
theorem tr_wqp {w h i : Nat} {a : tq_I} {v : Int32} (hi : i ≤ 10) (k : tr_wqP w h i a) : tr_wrP w h i 0 (nI 0, I_X12_puts a v) := by
  unfold tr_wrP
  dsimp only
  refine ⟨k.1.fr (fun j => fr_X12_puts _ _ (by decide) j), by decide, ?_⟩
  rw [show tq_N (nI 0) = 0 from by decide]
  exact k.2.puts (by omega)
theorem tr_wqe {w h i : Nat} {a : Int32 × tq_I} (hw : w ≤ 10) (k : tr_wrP w h i (w + 1) a) : tr_wqP w h (i + 1) a.2 := ⟨k.1, k.2.2.1, by have := k.2.2.2; omega⟩
def f_mwr2 (w h : Nat) (i : Nat) (a : tq_I) : tq_I := (if (nI i) ≤ 0 then (tq_it (f_mwr1 i w h) (w + 1) 0 ((nI 0), a)).2 else (tq_it (f_mwr1 i w h) (w + 1) 0 ((nI 0), (I_X12_puts a (nI 47)))).2)
set_option maxRecDepth 20000 in
theorem lp_mwr2 {g : tq_G} {x0 : tq_X} (C : tq_C g mX12_write x0) (hR : tq_ht x0 2 0 0) (J : Int64) (w h : Nat) (hw10 : w ≤ 10) (hh10 : h ≤ 10) : ∀ (n i : Nat) (a : tq_I), i + n = h + 1 → tr_wqP w h i a → EV g mX12_write x0 0 0 96 [some (.ref 117), some (.int (nI (i + n))), none, none] [] (tq_SC ++ tq_SR) tq_RR (tq_it (f_mwr2 w h) n i a) J → EV g mX12_write x0 0 0 7 [some (.ref 117), some (.int (nI i)), none, none] [] (tq_SC ++ tq_SR) tq_RR a J := by
  intro n
  induction n with
  | zero =>
    intro i a hi hI kk
    rw [Nat.add_zero] at kk
    refine EV_blk (own := 12) C rfl [(.iload_n 1, 0, 0, 0, 0), (.aload_n 0, 0, 0, 0, 0), (.getfield 7, 12, 0, 899, 0), (.iconst 1, 0, 0, 0, (nI 1))] (pc' := 13) (by decide +kernel) (lv' := [some (.ref 117), some (.int (nI i)), none, none]) (st' := [.int (nI 1), .ref 118, .int (nI i)]) (I' := a) (J' := J) rfl ?_
    refine EV_iald (j := 1) C (by decide +kernel) rfl (nI_toInt (by omega)) (by omega) ?_
    refine EV_icmp_gt (off := 82) (tgt := 96) C (by decide +kernel) (by decide) (fun h1 => ?_) (fun h1 => ?_)
    · skip
      exact kk
    · skip
      exact absurd h1 (by simp (disch := omega) only [Int32.lt_iff_toInt_lt, Int32.le_iff_toInt_le, Int32.toInt_zero, nI_toInt, tq_m1, hI.1.2.1]; omega)
  | succ n ih =>
    intro i a hi hI kk
    rw [show i + (n + 1) = (i + 1) + n by omega] at kk
    refine EV_blk (own := 12) C rfl [(.iload_n 1, 0, 0, 0, 0), (.aload_n 0, 0, 0, 0, 0), (.getfield 7, 12, 0, 899, 0), (.iconst 1, 0, 0, 0, (nI 1))] (pc' := 13) (by decide +kernel) (lv' := [some (.ref 117), some (.int (nI i)), none, none]) (st' := [.int (nI 1), .ref 118, .int (nI i)]) (I' := a) (J' := J) rfl ?_
    refine EV_iald (j := 1) C (by decide +kernel) rfl (nI_toInt (by omega)) (by omega) ?_
    refine EV_icmp_gt (off := 82) (tgt := 96) C (by decide +kernel) (by decide) (fun h1 => ?_) (fun h1 => ?_)
    · skip
      exact absurd h1 (by simp (disch := omega) only [Int32.lt_iff_toInt_lt, Int32.le_iff_toInt_le, Int32.toInt_zero, nI_toInt, tq_m1, hI.1.2.1]; omega)
    · skip
      refine EV_blk (own := 12) C rfl [(.iload_n 1, 0, 0, 0, 0)] (pc' := 18) (by decide +kernel) (lv' := [some (.ref 117), some (.int (nI i)), none, none]) (st' := [.int (nI i)]) (I' := a) (J' := J) rfl ?_
      refine EV_if_le (off := 9) (tgt := 27) C (by decide +kernel) (by decide) (fun h2 => ?_) (fun h2 => ?_)
      · skip
        refine EV_blk (own := 12) C rfl [(.iconst 0, 0, 0, 0, (nI 0)), (.istore_n 2, 0, 0, 0, 0), (.iconst 0, 0, 0, 0, (nI 0)), (.istore_n 3, 0, 0, 0, 0)] (pc' := 31) (by decide +kernel) (lv' := [some (.ref 117), some (.int (nI i)), some (.int (nI 0)), some (.int (nI 0))]) (st' := []) (I' := a) (J' := J) rfl ?_
        have hlp := lp_mwr1 (g := g) C hR J i w h (by omega) hw10 (w + 1) 0 ((nI 0), a)
        dsimp only at hlp
        refine hlp (by omega) (tr_wqs hI) ?_
        clear hlp
        refine EV_blk (own := 12) C rfl [(.iinc 1 1, 0, 0, 0, (nI 1)), (.goto (-86), 0, 0, 0, 0)] (pc' := 7) (by decide +kernel) (lv' := [some (.ref 117), some (.int ((nI i) + (nI 1))), some (.int ((tq_it (f_mwr1 i w h) (w + 1) 0 ((nI 0), a)).1)), some (.int (nI ((0 + (w + 1)))))]) (st' := []) (I' := (tq_it (f_mwr1 i w h) (w + 1) 0 ((nI 0), a)).2) (J' := J) rfl ?_
        refine EV_fg (lv' := [some (.ref 117), some (.int ((nI i) + (nI 1))), none, none]) ⟨rfl, rfl, trivial⟩ ?_
        rw [show ((nI i) + (nI 1)) = (nI (i + 1)) from by simp (disch := omega) only [nI_add, tq_mul] <;> exact congrArg nI (by omega)]
        rw [tq_its, show (f_mwr2 w h) i a = (tq_it (f_mwr1 i w h) (w + 1) 0 ((nI 0), a)).2 from by simp only [f_mwr2, if_neg h1, if_pos h2]] at kk
        exact ih (i + 1) ((tq_it (f_mwr1 i w h) (w + 1) 0 ((nI 0), a)).2) (by omega) (tr_wqe hw10 (tr_wrP_it (by omega) hw10 _ 0 _ (Nat.zero_add _) (tr_wqs hI))) kk
      · skip
        refine EV_blk (own := 12) C rfl [(.aload_n 0, 0, 0, 0, 0), (.bipush 47, 0, 0, 0, (nI 47))] (pc' := 24) (by decide +kernel) (lv' := [some (.ref 117), some (.int (nI i)), none, none]) (st' := [.int (nI 47), .ref 117]) (I' := a) (J' := J) rfl ?_
        refine EV_cV (own := 12) (idx := 218) (μ' := mX12_puts) (b := 117) (cb := 12) (av := [.int (nI 47)]) (rest := []) C hR rfl (Or.inl ⟨1265, by decide⟩) kX12_puts sX12_puts (c_X12_puts g a J (nI 47) hI.2.1 (by have := hI.2.2; omega)) rfl rfl (by decide +kernel) rfl (by decide) (Nat.le_of_ble_eq_true rfl) rfl ⟨Nat.zero_le _, Nat.zero_le _⟩ ?_
        refine EV_blk (own := 12) C rfl [(.iconst 0, 0, 0, 0, (nI 0)), (.istore_n 2, 0, 0, 0, 0), (.iconst 0, 0, 0, 0, (nI 0)), (.istore_n 3, 0, 0, 0, 0)] (pc' := 31) (by decide +kernel) (lv' := [some (.ref 117), some (.int (nI i)), some (.int (nI 0)), some (.int (nI 0))]) (st' := []) (I' := (I_X12_puts a (nI 47))) (J' := J) rfl ?_
        have hlp := lp_mwr1 (g := g) C hR J i w h (by omega) hw10 (w + 1) 0 ((nI 0), (I_X12_puts a (nI 47)))
        dsimp only at hlp
        refine hlp (by omega) (tr_wqp (by omega) hI) ?_
        clear hlp
        refine EV_blk (own := 12) C rfl [(.iinc 1 1, 0, 0, 0, (nI 1)), (.goto (-86), 0, 0, 0, 0)] (pc' := 7) (by decide +kernel) (lv' := [some (.ref 117), some (.int ((nI i) + (nI 1))), some (.int ((tq_it (f_mwr1 i w h) (w + 1) 0 ((nI 0), (I_X12_puts a (nI 47)))).1)), some (.int (nI ((0 + (w + 1)))))]) (st' := []) (I' := (tq_it (f_mwr1 i w h) (w + 1) 0 ((nI 0), (I_X12_puts a (nI 47)))).2) (J' := J) rfl ?_
        refine EV_fg (lv' := [some (.ref 117), some (.int ((nI i) + (nI 1))), none, none]) ⟨rfl, rfl, trivial⟩ ?_
        rw [show ((nI i) + (nI 1)) = (nI (i + 1)) from by simp (disch := omega) only [nI_add, tq_mul] <;> exact congrArg nI (by omega)]
        rw [tq_its, show (f_mwr2 w h) i a = (tq_it (f_mwr1 i w h) (w + 1) 0 ((nI 0), (I_X12_puts a (nI 47)))).2 from by simp only [f_mwr2, if_neg h1, if_neg h2]] at kk
        exact ih (i + 1) ((tq_it (f_mwr1 i w h) (w + 1) 0 ((nI 0), (I_X12_puts a (nI 47)))).2) (by omega) (tr_wqe hw10 (tr_wrP_it (by omega) hw10 _ 0 _ (Nat.zero_add _) (tr_wqp (by omega) hI))) kk
theorem fr_mwr2 (w h : Nat) {cz : Nat} (hc : cz ≠ 117 ∧ cz ≠ 120) (n i : Nat) (a : tq_I) (jz : Nat) : (tq_it (f_mwr2 w h) n i a) cz jz = a cz jz := by
  obtain ⟨hc0, hc1⟩ := hc
  refine tq_itF (fun i a j => ?_) n i a jz
  simp only [f_mwr2]
  (repeat' split) <;> simp (disch := first | assumption | (simp only [ne_eq] at *; simp [*])) [tq_u, tq_cp, hc0, hc1, fr_X12_touches, fr_ta1, fr_X12_touchesAll, fr_cps1, fr_X12_copies, fr_sav, fr_bg1, fr_bg2, fr_X12_begins, fr_ly1, fr_X12_lays, fr_bgn1, fr_X12_begin, fr_X12_setCorner, fr_fi1, fr_X12_fill, fr_fg1, fr_X12_forgets, fr_rc1, fr_rc2, fr_X12_reaches, fr_mfl1, fr_X12_flood, fr_mrg1, fr_X12_regions, fr_mra1, fr_X12_raise, fr_sp1, fr_X12_setPath, fr_sr1, fr_sr2, fr_X12_setRank, fr_X12_becomes, fr_X12_setTiles, fr_X12_setVariants, fr_X12_setSeed, fr_X12_setBorder, fr_X12_makesUp, fr_X12_finds, fr_X12_parts, fr_put, fr_mfy2, fr_X12_findsLayers, fr_mfp1, fr_mfp2, fr_X12_findsPieces, fr_X12_layers, fr_X12_layer, fr_X12_pieces, fr_X12_piece, fr_X12_isStaleAt, fr_mpa1, fr_X12_paints, fr_X12_isStale, fr_mst2, fr_X12_stale, fr_mpt1, fr_X12_paint, fr_X12_paintCell, fr_mfk2, fr_mfk3, fr_X12_findsKinds, fr_X12_kinds, fr_X12_kind, fr_X12_undo, fr_X12_here, fr_X12_type, fr_X12_clearText, fr_X12_number, fr_mri1, fr_X12_readsItem, fr_rwS, fr_X12_readsRow, fr_raE, fr_X12_readsAll, fr_X12_textFault, fr_mld1, fr_X12_load, fr_X12_puts, fr_X12_writesItem, fr_mwr1]
def r_X12_write (I : tq_I) (w h : Nat) : Int32 := ((tq_it (f_mwr2 w h) (h + 1) 0 (tq_u I 117 5 (nI 0))) 117 5)
def I_X12_write (I : tq_I) (w h : Nat) : tq_I := (tq_it (f_mwr2 w h) (h + 1) 0 (tq_u I 117 5 (nI 0)))
set_option maxRecDepth 20000 in
theorem c_X12_write (g : tq_G) (I : tq_I) (J : Int64) (w h : Nat) (k : tr_wh I w h) : CT g mX12_write 2 0 0 [.ref 117] (tq_SC ++ tq_SR) tq_RR I J (tq_ret (tq_SC ++ tq_SR) tq_RR (some (.int (r_X12_write I w h))) (I_X12_write I w h) J) := by
  refine CT.ret kX12_write (Nat.le_of_ble_eq_true rfl) (fun x0 C hR hZ => ?_)
  refine EV_en (lv' := [some (.ref 117), none, none, none]) 3 rfl ?_
  refine EV_blk (own := 12) C rfl [(.aload_n 0, 0, 0, 0, 0), (.iconst 0, 0, 0, 0, (nI 0)), (.putfield 215, 12, 5, 904, 0), (.iconst 0, 0, 0, 0, (nI 0)), (.istore_n 1, 0, 0, 0, 0)] (pc' := 7) (by decide +kernel) (lv' := [some (.ref 117), some (.int (nI 0)), none, none]) (st' := []) (I' := (tq_u I 117 5 (nI 0))) (J' := J) rfl ?_
  refine lp_mwr2 C hR J w h k.2.2.2.1 k.2.2.2.2.2 (h + 1) 0 (tq_u I 117 5 (nI 0)) (by omega) ⟨k.fr (fun j => tq_u_cell (by decide)), by rw [tq_u_same]; decide, by rw [tq_u_same]; decide⟩ ?_
  refine EV_blk (own := 12) C rfl [(.aload_n 0, 0, 0, 0, 0), (.getfield 215, 12, 5, 904, 0)] (pc' := 100) (by decide +kernel) (lv' := [some (.ref 117), some (.int (nI ((0 + (h + 1))))), none, none]) (st' := [.int ((tq_it (f_mwr2 w h) (h + 1) 0 (tq_u I 117 5 (nI 0))) 117 5)]) (I' := (tq_it (f_mwr2 w h) (h + 1) 0 (tq_u I 117 5 (nI 0)))) (J' := J) rfl ?_
  exact EV_iret C hZ rfl (by decide +kernel) (Nat.le_refl _) (Nat.le_refl _) ⟨tq_some (by simp only [r_X12_write]), rfl, rfl, by simp only [I_X12_write], rfl⟩
theorem fr_X12_write (I : tq_I) (w h : Nat) {cz : Nat} (hc : cz ≠ 117 ∧ cz ≠ 120) (jz : Nat) : I_X12_write I w h cz jz = I cz jz := by
  obtain ⟨hc0, hc1⟩ := hc
  simp only [I_X12_write]
  (repeat' split) <;> simp (disch := first | assumption | (simp only [ne_eq] at *; simp [*])) [tq_u, tq_cp, hc0, hc1, fr_X12_touches, fr_ta1, fr_X12_touchesAll, fr_cps1, fr_X12_copies, fr_sav, fr_bg1, fr_bg2, fr_X12_begins, fr_ly1, fr_X12_lays, fr_bgn1, fr_X12_begin, fr_X12_setCorner, fr_fi1, fr_X12_fill, fr_fg1, fr_X12_forgets, fr_rc1, fr_rc2, fr_X12_reaches, fr_mfl1, fr_X12_flood, fr_mrg1, fr_X12_regions, fr_mra1, fr_X12_raise, fr_sp1, fr_X12_setPath, fr_sr1, fr_sr2, fr_X12_setRank, fr_X12_becomes, fr_X12_setTiles, fr_X12_setVariants, fr_X12_setSeed, fr_X12_setBorder, fr_X12_makesUp, fr_X12_finds, fr_X12_parts, fr_put, fr_mfy2, fr_X12_findsLayers, fr_mfp1, fr_mfp2, fr_X12_findsPieces, fr_X12_layers, fr_X12_layer, fr_X12_pieces, fr_X12_piece, fr_X12_isStaleAt, fr_mpa1, fr_X12_paints, fr_X12_isStale, fr_mst2, fr_X12_stale, fr_mpt1, fr_X12_paint, fr_X12_paintCell, fr_mfk2, fr_mfk3, fr_X12_findsKinds, fr_X12_kinds, fr_X12_kind, fr_X12_undo, fr_X12_here, fr_X12_type, fr_X12_clearText, fr_X12_number, fr_mri1, fr_X12_readsItem, fr_rwS, fr_X12_readsRow, fr_raE, fr_X12_readsAll, fr_X12_textFault, fr_mld1, fr_X12_load, fr_X12_puts, fr_X12_writesItem, fr_mwr1, fr_mwr2]
def r_X12_written (I : tq_I) (q : Int32) (m : Nat) : Int32 := (if (tq_b ((nI 0).toInt ≤ q.toInt ∧ q.toInt ≤ ((I 117 5) - (nI 1)).toInt)) = 0 then (-2) else (I 120 (tq_N q)))
set_option maxRecDepth 20000 in
theorem c_X12_written (g : tq_G) (I : tq_I) (J : Int64) (q : Int32) (m : Nat) (k : tr_out I m) (hm : m ≤ 150) : CT g mX12_written 1 0 0 [.ref 117, .int q] (tq_SC ++ tq_SR) tq_RR I J (tq_ret (tq_SC ++ tq_SR) tq_RR (some (.int (r_X12_written I q m))) I J) := by
  refine CT.ret kX12_written (Nat.le_of_ble_eq_true rfl) (fun x0 C hR hZ => ?_)
  refine EV_en (lv' := [some (.ref 117), some (.int q)]) 0 rfl ?_
  refine EV_blk (own := 12) C rfl [(.iload_n 1, 0, 0, 0, 0), (.iconst 0, 0, 0, 0, (nI 0)), (.aload_n 0, 0, 0, 0, 0), (.getfield 215, 12, 5, 904, 0), (.iconst 1, 0, 0, 0, (nI 1)), (.isub, 0, 0, 0, 0)] (pc' := 8) (by decide +kernel) (lv' := [some (.ref 117), some (.int q)]) (st' := [.int ((I 117 5) - (nI 1)), .int (nI 0), .int q]) (I' := I) (J' := J) rfl ?_
  refine EV_cS (own := 12) (idx := 62) (μ' := mX12_in) (av := [.int q, .int (nI 0), .int ((I 117 5) - (nI 1))]) (rest := []) C hR rfl (Or.inl ⟨896, by decide⟩) kX12_in sX12_in (c_X12_in g I J q (nI 0) ((I 117 5) - (nI 1)) ) (by decide +kernel) rfl (by decide) (Nat.le_of_ble_eq_true rfl) rfl ⟨Nat.zero_le _, Nat.zero_le _⟩ ?_
  refine EV_if_eq (off := 12) (tgt := 23) C (by decide +kernel) (by decide) (fun h1 => ?_) (fun h1 => ?_)
  · skip
    refine EV_blk (own := 12) C rfl [(.bipush (-2), 0, 0, 0, (-2))] (pc' := 25) (by decide +kernel) (lv' := [some (.ref 117), some (.int q)]) (st' := [.int (-2)]) (I' := I) (J' := J) rfl ?_
    exact EV_iret C hZ rfl (by decide +kernel) (Nat.le_refl _) (Nat.le_refl _) ⟨tq_some (by simp only [r_X12_written, if_pos h1]), rfl, rfl, rfl, rfl⟩
  · skip
    have hl := tr_lyx (tq_b10 h1) k (by omega)
    refine EV_blk (own := 12) C rfl [(.aload_n 0, 0, 0, 0, 0), (.getfield 16, 12, 4, 903, 0), (.iload_n 1, 0, 0, 0, 0)] (pc' := 19) (by decide +kernel) (lv' := [some (.ref 117), some (.int q)]) (st' := [.int q, .ref 120]) (I' := I) (J' := J) rfl ?_
    refine EV_iald (j := (tq_N q)) C (by decide +kernel) rfl (tq_NI hl.1) (by omega) ?_
    refine EV_blk (own := 12) C rfl [(.goto 5, 0, 0, 0, 0)] (pc' := 25) (by decide +kernel) (lv' := [some (.ref 117), some (.int q)]) (st' := [.int (I 120 (tq_N q))]) (I' := I) (J' := J) rfl ?_
    exact EV_iret C hZ rfl (by decide +kernel) (Nat.le_refl _) (Nat.le_refl _) ⟨tq_some (by simp only [r_X12_written, if_neg h1]), rfl, rfl, rfl, rfl⟩
def f_mnc1 (I : tq_I) (x y at_ p : Nat) (i : Nat) (a : Int64) : Int64 := (((31 : Int64) * a) + ((r_X12_ofPiece (I 118 ((at_ + 2) + (i / 4))) (nI (i % 4)))).toInt64)
set_option maxRecDepth 20000 in
theorem lp_mnc1 {g : tq_G} {x0 : tq_X} (C : tq_C g mX12_noteCell x0) (hR : tq_ht x0 6 0 0) (I : tq_I) (x y at_ p : Nat) (hat : at_ ≤ 1400) (hp : I 118 at_ = nI p) (hp7 : p ≤ 7) : ∀ (n i : Nat) (a : Int64), i + n = 4 * p → EV g mX12_noteCell x0 0 0 101 [some (.ref 117), some (.int (nI x)), some (.int (nI y)), some (.int (nI at_)), some (.int (nI (i + n)))] [] (tq_SC ++ tq_SR) tq_RR I (tq_it (f_mnc1 I x y at_ p) n i a) → EV g mX12_noteCell x0 0 0 58 [some (.ref 117), some (.int (nI x)), some (.int (nI y)), some (.int (nI at_)), some (.int (nI i))] [] (tq_SC ++ tq_SR) tq_RR I a := by
  intro n
  induction n with
  | zero =>
    intro i a hi kk
    rw [Nat.add_zero] at kk
    refine EV_blk (own := 12) C rfl [(.iload 4, 0, 0, 0, 0), (.iconst 4, 0, 0, 0, (nI 4)), (.aload_n 0, 0, 0, 0, 0), (.getfield 7, 12, 0, 899, 0), (.iload_n 3, 0, 0, 0, 0)] (pc' := 66) (by decide +kernel) (lv' := [some (.ref 117), some (.int (nI x)), some (.int (nI y)), some (.int (nI at_)), some (.int (nI i))]) (st' := [.int (nI at_), .ref 118, .int (nI 4), .int (nI i)]) (I' := I) (J' := a) rfl ?_
    refine EV_iald (j := at_) C (by decide +kernel) rfl (nI_toInt (by omega)) (by omega) ?_
    refine EV_blk (own := 12) C rfl [(.imul, 0, 0, 0, 0)] (pc' := 68) (by decide +kernel) (lv' := [some (.ref 117), some (.int (nI x)), some (.int (nI y)), some (.int (nI at_)), some (.int (nI i))]) (st' := [.int ((nI 4) * (I 118 at_)), .int (nI i)]) (I' := I) (J' := a) rfl ?_
    refine EV_icmp_ge (off := 33) (tgt := 101) C (by decide +kernel) (by decide) (fun h1 => ?_) (fun h1 => ?_)
    · skip
      exact kk
    · skip
      exact absurd h1 (by simp (disch := omega) only [Int32.lt_iff_toInt_lt, Int32.le_iff_toInt_le, Int32.toInt_zero, nI_toInt, tq_m1, hp, tq_mul]; omega)
  | succ n ih =>
    intro i a hi kk
    rw [show i + (n + 1) = (i + 1) + n by omega] at kk
    refine EV_blk (own := 12) C rfl [(.iload 4, 0, 0, 0, 0), (.iconst 4, 0, 0, 0, (nI 4)), (.aload_n 0, 0, 0, 0, 0), (.getfield 7, 12, 0, 899, 0), (.iload_n 3, 0, 0, 0, 0)] (pc' := 66) (by decide +kernel) (lv' := [some (.ref 117), some (.int (nI x)), some (.int (nI y)), some (.int (nI at_)), some (.int (nI i))]) (st' := [.int (nI at_), .ref 118, .int (nI 4), .int (nI i)]) (I' := I) (J' := a) rfl ?_
    refine EV_iald (j := at_) C (by decide +kernel) rfl (nI_toInt (by omega)) (by omega) ?_
    refine EV_blk (own := 12) C rfl [(.imul, 0, 0, 0, 0)] (pc' := 68) (by decide +kernel) (lv' := [some (.ref 117), some (.int (nI x)), some (.int (nI y)), some (.int (nI at_)), some (.int (nI i))]) (st' := [.int ((nI 4) * (I 118 at_)), .int (nI i)]) (I' := I) (J' := a) rfl ?_
    refine EV_icmp_ge (off := 33) (tgt := 101) C (by decide +kernel) (by decide) (fun h1 => ?_) (fun h1 => ?_)
    · skip
      exact absurd h1 (by simp (disch := omega) only [Int32.lt_iff_toInt_lt, Int32.le_iff_toInt_le, Int32.toInt_zero, nI_toInt, tq_m1, hp, tq_mul]; omega)
    · skip
      refine EV_blk (own := 12) C rfl [(.aload_n 0, 0, 0, 0, 0), (.aload_n 0, 0, 0, 0, 0), (.getfield 7, 12, 0, 899, 0), (.iload_n 3, 0, 0, 0, 0), (.iconst 2, 0, 0, 0, (nI 2)), (.iadd, 0, 0, 0, 0), (.iload 4, 0, 0, 0, 0), (.iconst 4, 0, 0, 0, (nI 4))] (pc' := 82) (by decide +kernel) (lv' := [some (.ref 117), some (.int (nI x)), some (.int (nI y)), some (.int (nI at_)), some (.int (nI i))]) (st' := [.int (nI 4), .int (nI i), .int ((nI at_) + (nI 2)), .ref 118, .ref 117]) (I' := I) (J' := a) rfl ?_
      refine EV_idiv C (by decide +kernel) (by decide) ?_
      refine EV_blk (own := 12) C rfl [(.iadd, 0, 0, 0, 0)] (pc' := 84) (by decide +kernel) (lv' := [some (.ref 117), some (.int (nI x)), some (.int (nI y)), some (.int (nI at_)), some (.int (nI i))]) (st' := [.int (((nI at_) + (nI 2)) + ((nI i) / (nI 4))), .ref 118, .ref 117]) (I' := I) (J' := a) rfl ?_
      refine EV_iald (j := ((at_ + 2) + (i / 4))) C (by decide +kernel) rfl (tq_toI ((at_ + 2) + (i / 4)) (by simp (disch := omega) only [nI_add, tq_mul, tq_rem_nI, tq_div_nI, tq_sub_nI]) (by omega)) (by omega) ?_
      refine EV_blk (own := 12) C rfl [(.iload 4, 0, 0, 0, 0), (.iconst 4, 0, 0, 0, (nI 4))] (pc' := 88) (by decide +kernel) (lv' := [some (.ref 117), some (.int (nI x)), some (.int (nI y)), some (.int (nI at_)), some (.int (nI i))]) (st' := [.int (nI 4), .int (nI i), .int (I 118 ((at_ + 2) + (i / 4))), .ref 117]) (I' := I) (J' := a) rfl ?_
      refine EV_irem C (by decide +kernel) (by decide) ?_
      rw [show (tq_rem (nI i) (nI 4)) = (nI (i % 4)) from by simp (disch := omega) only [nI_add, tq_mul, tq_rem_nI, tq_div_nI, tq_sub_nI]]
      refine EV_cS (own := 12) (idx := 161) (μ' := mX12_ofPiece) (av := [.int (I 118 ((at_ + 2) + (i / 4))), .int (nI (i % 4))]) (rest := [.ref 117]) C hR rfl (Or.inl ⟨1170, by decide⟩) kX12_ofPiece sX12_ofPiece (c_X12_ofPiece g I a (I 118 ((at_ + 2) + (i / 4))) (nI (i % 4)) ) (by decide +kernel) rfl (by decide) (Nat.le_of_ble_eq_true rfl) rfl ⟨Nat.zero_le _, Nat.zero_le _⟩ ?_
      refine EV_cV (own := 12) (idx := 231) (μ' := mX12_note) (b := 117) (cb := 12) (av := [.int (r_X12_ofPiece (I 118 ((at_ + 2) + (i / 4))) (nI (i % 4)))]) (rest := []) C hR rfl (Or.inl ⟨1282, by decide⟩) kX12_note sX12_note (c_X12_note g I a (r_X12_ofPiece (I 118 ((at_ + 2) + (i / 4))) (nI (i % 4))) ) rfl rfl (by decide +kernel) rfl (by decide) (Nat.le_of_ble_eq_true rfl) rfl ⟨Nat.zero_le _, Nat.zero_le _⟩ ?_
      refine EV_blk (own := 12) C rfl [(.iinc 4 1, 0, 0, 0, (nI 1)), (.goto (-40), 0, 0, 0, 0)] (pc' := 58) (by decide +kernel) (lv' := [some (.ref 117), some (.int (nI x)), some (.int (nI y)), some (.int (nI at_)), some (.int ((nI i) + (nI 1)))]) (st' := []) (I' := I) (J' := (((31 : Int64) * a) + ((r_X12_ofPiece (I 118 ((at_ + 2) + (i / 4))) (nI (i % 4)))).toInt64)) rfl ?_
      rw [show ((nI i) + (nI 1)) = (nI (i + 1)) from by simp (disch := omega) only [nI_add, tq_mul] <;> exact congrArg nI (by omega)]
      rw [tq_its, show (f_mnc1 I x y at_ p) i a = (((31 : Int64) * a) + ((r_X12_ofPiece (I 118 ((at_ + 2) + (i / 4))) (nI (i % 4)))).toInt64) from by simp only [f_mnc1, if_neg h1]] at kk
      exact ih (i + 1) (((31 : Int64) * a) + ((r_X12_ofPiece (I 118 ((at_ + 2) + (i / 4))) (nI (i % 4)))).toInt64) (by omega) kk
def I_X12_noteCell (I : tq_I) (J : Int64) (x y : Nat) (w h : Nat) : tq_I := (if (r_X12_isStaleAt I x y w h) = 0 then (I_X12_isStaleAt I x y w h) else (I_X12_isStaleAt I x y w h))
def J_X12_noteCell (I : tq_I) (J : Int64) (x y : Nat) (w h : Nat) : Int64 := (if (r_X12_isStaleAt I x y w h) = 0 then (tq_it (f_mnc1 (I_X12_isStaleAt I x y w h) x y (343 + 10 * (10 * y + x)) (tq_N (I 118 (343 + 10 * (10 * y + x))))) (4 * tq_N (I 118 (343 + 10 * (10 * y + x)))) 0 (((31 : Int64) * (((31 : Int64) * (((31 : Int64) * (((31 : Int64) * J) + ((r_X12_pathOf I (nI x) (nI y) w h)).toInt64)) + ((r_X12_pathTileOf I (nI x) (nI y) w h)).toInt64)) + ((nI 0)).toInt64)) + (((I_X12_isStaleAt I x y w h) 118 (343 + 10 * (10 * y + x)))).toInt64)) else (tq_it (f_mnc1 (I_X12_isStaleAt I x y w h) x y (343 + 10 * (10 * y + x)) (tq_N (I 118 (343 + 10 * (10 * y + x))))) (4 * tq_N (I 118 (343 + 10 * (10 * y + x)))) 0 (((31 : Int64) * (((31 : Int64) * (((31 : Int64) * (((31 : Int64) * J) + ((r_X12_pathOf I (nI x) (nI y) w h)).toInt64)) + ((r_X12_pathTileOf I (nI x) (nI y) w h)).toInt64)) + ((nI 1)).toInt64)) + (((I_X12_isStaleAt I x y w h) 118 (343 + 10 * (10 * y + x)))).toInt64)))
set_option maxRecDepth 20000 in
theorem c_X12_noteCell (g : tq_G) (I : tq_I) (J : Int64) (x y : Nat) (w h : Nat) (hx : x ≤ 9) (hy : y ≤ 9) (k : tr_bas I w h) (hpc : tr_pc I) : CT g mX12_noteCell 6 0 0 [.ref 117, .int (nI x), .int (nI y)] (tq_SC ++ tq_SR) tq_RR I J (tq_ret (tq_SC ++ tq_SR) tq_RR none (I_X12_noteCell I J x y w h) (J_X12_noteCell I J x y w h)) := by
  refine CT.ret kX12_noteCell (Nat.le_of_ble_eq_true rfl) (fun x0 C hR hZ => ?_)
  refine EV_en (lv' := [some (.ref 117), some (.int (nI x)), some (.int (nI y)), none, none]) 2 rfl ?_
  refine EV_blk (own := 12) C rfl [(.aload_n 0, 0, 0, 0, 0), (.aload_n 0, 0, 0, 0, 0), (.iload_n 1, 0, 0, 0, 0), (.iload_n 2, 0, 0, 0, 0)] (pc' := 4) (by decide +kernel) (lv' := [some (.ref 117), some (.int (nI x)), some (.int (nI y)), none, none]) (st' := [.int (nI y), .int (nI x), .ref 117, .ref 117]) (I' := I) (J' := J) rfl ?_
  refine EV_cV (own := 12) (idx := 110) (μ' := mX12_pathOf) (b := 117) (cb := 12) (av := [.int (nI x), .int (nI y)]) (rest := [.ref 117]) C hR rfl (Or.inl ⟨1057, by decide⟩) kX12_pathOf sX12_pathOf (c_X12_pathOf g I J (nI x) (nI y) w h k.1) rfl rfl (by decide +kernel) rfl (by decide) (Nat.le_of_ble_eq_true rfl) rfl ⟨Nat.zero_le _, Nat.zero_le _⟩ ?_
  refine EV_cV (own := 12) (idx := 231) (μ' := mX12_note) (b := 117) (cb := 12) (av := [.int (r_X12_pathOf I (nI x) (nI y) w h)]) (rest := []) C hR rfl (Or.inl ⟨1282, by decide⟩) kX12_note sX12_note (c_X12_note g I J (r_X12_pathOf I (nI x) (nI y) w h) ) rfl rfl (by decide +kernel) rfl (by decide) (Nat.le_of_ble_eq_true rfl) rfl ⟨Nat.zero_le _, Nat.zero_le _⟩ ?_
  refine EV_blk (own := 12) C rfl [(.aload_n 0, 0, 0, 0, 0), (.aload_n 0, 0, 0, 0, 0), (.iload_n 1, 0, 0, 0, 0), (.iload_n 2, 0, 0, 0, 0)] (pc' := 14) (by decide +kernel) (lv' := [some (.ref 117), some (.int (nI x)), some (.int (nI y)), none, none]) (st' := [.int (nI y), .int (nI x), .ref 117, .ref 117]) (I' := I) (J' := (((31 : Int64) * J) + ((r_X12_pathOf I (nI x) (nI y) w h)).toInt64)) rfl ?_
  refine EV_cV (own := 12) (idx := 119) (μ' := mX12_pathTileOf) (b := 117) (cb := 12) (av := [.int (nI x), .int (nI y)]) (rest := [.ref 117]) C hR rfl (Or.inl ⟨1077, by decide⟩) kX12_pathTileOf sX12_pathTileOf (c_X12_pathTileOf g I (((31 : Int64) * J) + ((r_X12_pathOf I (nI x) (nI y) w h)).toInt64) (nI x) (nI y) w h k.1) rfl rfl (by decide +kernel) rfl (by decide) (Nat.le_of_ble_eq_true rfl) rfl ⟨Nat.zero_le _, Nat.zero_le _⟩ ?_
  refine EV_cV (own := 12) (idx := 231) (μ' := mX12_note) (b := 117) (cb := 12) (av := [.int (r_X12_pathTileOf I (nI x) (nI y) w h)]) (rest := []) C hR rfl (Or.inl ⟨1282, by decide⟩) kX12_note sX12_note (c_X12_note g I (((31 : Int64) * J) + ((r_X12_pathOf I (nI x) (nI y) w h)).toInt64) (r_X12_pathTileOf I (nI x) (nI y) w h) ) rfl rfl (by decide +kernel) rfl (by decide) (Nat.le_of_ble_eq_true rfl) rfl ⟨Nat.zero_le _, Nat.zero_le _⟩ ?_
  refine EV_blk (own := 12) C rfl [(.aload_n 0, 0, 0, 0, 0), (.aload_n 0, 0, 0, 0, 0), (.iload_n 1, 0, 0, 0, 0), (.iload_n 2, 0, 0, 0, 0)] (pc' := 24) (by decide +kernel) (lv' := [some (.ref 117), some (.int (nI x)), some (.int (nI y)), none, none]) (st' := [.int (nI y), .int (nI x), .ref 117, .ref 117]) (I' := I) (J' := (((31 : Int64) * (((31 : Int64) * J) + ((r_X12_pathOf I (nI x) (nI y) w h)).toInt64)) + ((r_X12_pathTileOf I (nI x) (nI y) w h)).toInt64)) rfl ?_
  refine EV_cV (own := 12) (idx := 167) (μ' := mX12_isStaleAt) (b := 117) (cb := 12) (av := [.int (nI x), .int (nI y)]) (rest := [.ref 117]) C hR rfl (Or.inl ⟨1185, by decide⟩) kX12_isStaleAt sX12_isStaleAt (c_X12_isStaleAt g I (((31 : Int64) * (((31 : Int64) * J) + ((r_X12_pathOf I (nI x) (nI y) w h)).toInt64)) + ((r_X12_pathTileOf I (nI x) (nI y) w h)).toInt64) x y w h (by omega) (by omega) k) rfl rfl (by decide +kernel) rfl (by decide) (Nat.le_of_ble_eq_true rfl) rfl ⟨Nat.zero_le _, Nat.zero_le _⟩ ?_
  refine EV_if_eq (off := 7) (tgt := 34) C (by decide +kernel) (by decide) (fun h1 => ?_) (fun h1 => ?_)
  · skip
    refine EV_blk (own := 12) C rfl [(.iconst 0, 0, 0, 0, (nI 0))] (pc' := 35) (by decide +kernel) (lv' := [some (.ref 117), some (.int (nI x)), some (.int (nI y)), none, none]) (st' := [.int (nI 0), .ref 117]) (I' := (I_X12_isStaleAt I x y w h)) (J' := (((31 : Int64) * (((31 : Int64) * J) + ((r_X12_pathOf I (nI x) (nI y) w h)).toInt64)) + ((r_X12_pathTileOf I (nI x) (nI y) w h)).toInt64)) rfl ?_
    refine EV_cV (own := 12) (idx := 231) (μ' := mX12_note) (b := 117) (cb := 12) (av := [.int (nI 0)]) (rest := []) C hR rfl (Or.inl ⟨1282, by decide⟩) kX12_note sX12_note (c_X12_note g (I_X12_isStaleAt I x y w h) (((31 : Int64) * (((31 : Int64) * J) + ((r_X12_pathOf I (nI x) (nI y) w h)).toInt64)) + ((r_X12_pathTileOf I (nI x) (nI y) w h)).toInt64) (nI 0) ) rfl rfl (by decide +kernel) rfl (by decide) (Nat.le_of_ble_eq_true rfl) rfl ⟨Nat.zero_le _, Nat.zero_le _⟩ ?_
    refine EV_blk (own := 12) C rfl [(.aload_n 0, 0, 0, 0, 0), (.iload_n 1, 0, 0, 0, 0), (.iload_n 2, 0, 0, 0, 0)] (pc' := 41) (by decide +kernel) (lv' := [some (.ref 117), some (.int (nI x)), some (.int (nI y)), none, none]) (st' := [.int (nI y), .int (nI x), .ref 117]) (I' := (I_X12_isStaleAt I x y w h)) (J' := (((31 : Int64) * (((31 : Int64) * (((31 : Int64) * J) + ((r_X12_pathOf I (nI x) (nI y) w h)).toInt64)) + ((r_X12_pathTileOf I (nI x) (nI y) w h)).toInt64)) + ((nI 0)).toInt64)) rfl ?_
    refine EV_cV (own := 12) (idx := 164) (μ' := mX12_at) (b := 117) (cb := 12) (av := [.int (nI x), .int (nI y)]) (rest := []) C hR rfl (Or.inl ⟨1177, by decide⟩) kX12_at sX12_at (c_X12_at g (I_X12_isStaleAt I x y w h) (((31 : Int64) * (((31 : Int64) * (((31 : Int64) * J) + ((r_X12_pathOf I (nI x) (nI y) w h)).toInt64)) + ((r_X12_pathTileOf I (nI x) (nI y) w h)).toInt64)) + ((nI 0)).toInt64) x y ) rfl rfl (by decide +kernel) rfl (by decide) (Nat.le_of_ble_eq_true rfl) rfl ⟨Nat.zero_le _, Nat.zero_le _⟩ ?_
    refine EV_blk (own := 12) C rfl [(.istore_n 3, 0, 0, 0, 0), (.aload_n 0, 0, 0, 0, 0), (.aload_n 0, 0, 0, 0, 0), (.getfield 7, 12, 0, 899, 0), (.iload_n 3, 0, 0, 0, 0)] (pc' := 51) (by decide +kernel) (lv' := [some (.ref 117), some (.int (nI x)), some (.int (nI y)), some (.int (nI (343 + 10 * (10 * y + x)))), none]) (st' := [.int (nI (343 + 10 * (10 * y + x))), .ref 118, .ref 117]) (I' := (I_X12_isStaleAt I x y w h)) (J' := (((31 : Int64) * (((31 : Int64) * (((31 : Int64) * J) + ((r_X12_pathOf I (nI x) (nI y) w h)).toInt64)) + ((r_X12_pathTileOf I (nI x) (nI y) w h)).toInt64)) + ((nI 0)).toInt64)) rfl ?_
    refine EV_iald (j := (343 + 10 * (10 * y + x))) C (by decide +kernel) rfl (nI_toInt (by omega)) (by omega) ?_
    refine EV_cV (own := 12) (idx := 231) (μ' := mX12_note) (b := 117) (cb := 12) (av := [.int ((I_X12_isStaleAt I x y w h) 118 (343 + 10 * (10 * y + x)))]) (rest := []) C hR rfl (Or.inl ⟨1282, by decide⟩) kX12_note sX12_note (c_X12_note g (I_X12_isStaleAt I x y w h) (((31 : Int64) * (((31 : Int64) * (((31 : Int64) * J) + ((r_X12_pathOf I (nI x) (nI y) w h)).toInt64)) + ((r_X12_pathTileOf I (nI x) (nI y) w h)).toInt64)) + ((nI 0)).toInt64) ((I_X12_isStaleAt I x y w h) 118 (343 + 10 * (10 * y + x))) ) rfl rfl (by decide +kernel) rfl (by decide) (Nat.le_of_ble_eq_true rfl) rfl ⟨Nat.zero_le _, Nat.zero_le _⟩ ?_
    refine EV_blk (own := 12) C rfl [(.iconst 0, 0, 0, 0, (nI 0)), (.istore 4, 0, 0, 0, 0)] (pc' := 58) (by decide +kernel) (lv' := [some (.ref 117), some (.int (nI x)), some (.int (nI y)), some (.int (nI (343 + 10 * (10 * y + x)))), some (.int (nI 0))]) (st' := []) (I' := (I_X12_isStaleAt I x y w h)) (J' := (((31 : Int64) * (((31 : Int64) * (((31 : Int64) * (((31 : Int64) * J) + ((r_X12_pathOf I (nI x) (nI y) w h)).toInt64)) + ((r_X12_pathTileOf I (nI x) (nI y) w h)).toInt64)) + ((nI 0)).toInt64)) + (((I_X12_isStaleAt I x y w h) 118 (343 + 10 * (10 * y + x)))).toInt64)) rfl ?_
    refine lp_mnc1 C hR (I_X12_isStaleAt I x y w h) x y (343 + 10 * (10 * y + x)) (tq_N (I 118 (343 + 10 * (10 * y + x)))) (by omega) (by rw [fr_X12_isStaleAt _ _ _ _ _ (by decide)]; exact tq_nIN (hpc (10 * y + x) (by omega)).1) (by have := (hpc (10 * y + x) (by omega)); unfold tq_N; omega) (4 * tq_N (I 118 (343 + 10 * (10 * y + x)))) 0 (((31 : Int64) * (((31 : Int64) * (((31 : Int64) * (((31 : Int64) * J) + ((r_X12_pathOf I (nI x) (nI y) w h)).toInt64)) + ((r_X12_pathTileOf I (nI x) (nI y) w h)).toInt64)) + ((nI 0)).toInt64)) + (((I_X12_isStaleAt I x y w h) 118 (343 + 10 * (10 * y + x)))).toInt64) (by omega) ?_
    exact EV_vret C hZ rfl (by decide +kernel) (Nat.le_refl _) (Nat.le_refl _) ⟨rfl, rfl, rfl, by simp only [I_X12_noteCell, if_pos h1], by simp only [J_X12_noteCell, if_pos h1]⟩
  · skip
    refine EV_blk (own := 12) C rfl [(.iconst 1, 0, 0, 0, (nI 1)), (.goto 4, 0, 0, 0, 0)] (pc' := 35) (by decide +kernel) (lv' := [some (.ref 117), some (.int (nI x)), some (.int (nI y)), none, none]) (st' := [.int (nI 1), .ref 117]) (I' := (I_X12_isStaleAt I x y w h)) (J' := (((31 : Int64) * (((31 : Int64) * J) + ((r_X12_pathOf I (nI x) (nI y) w h)).toInt64)) + ((r_X12_pathTileOf I (nI x) (nI y) w h)).toInt64)) rfl ?_
    refine EV_cV (own := 12) (idx := 231) (μ' := mX12_note) (b := 117) (cb := 12) (av := [.int (nI 1)]) (rest := []) C hR rfl (Or.inl ⟨1282, by decide⟩) kX12_note sX12_note (c_X12_note g (I_X12_isStaleAt I x y w h) (((31 : Int64) * (((31 : Int64) * J) + ((r_X12_pathOf I (nI x) (nI y) w h)).toInt64)) + ((r_X12_pathTileOf I (nI x) (nI y) w h)).toInt64) (nI 1) ) rfl rfl (by decide +kernel) rfl (by decide) (Nat.le_of_ble_eq_true rfl) rfl ⟨Nat.zero_le _, Nat.zero_le _⟩ ?_
    refine EV_blk (own := 12) C rfl [(.aload_n 0, 0, 0, 0, 0), (.iload_n 1, 0, 0, 0, 0), (.iload_n 2, 0, 0, 0, 0)] (pc' := 41) (by decide +kernel) (lv' := [some (.ref 117), some (.int (nI x)), some (.int (nI y)), none, none]) (st' := [.int (nI y), .int (nI x), .ref 117]) (I' := (I_X12_isStaleAt I x y w h)) (J' := (((31 : Int64) * (((31 : Int64) * (((31 : Int64) * J) + ((r_X12_pathOf I (nI x) (nI y) w h)).toInt64)) + ((r_X12_pathTileOf I (nI x) (nI y) w h)).toInt64)) + ((nI 1)).toInt64)) rfl ?_
    refine EV_cV (own := 12) (idx := 164) (μ' := mX12_at) (b := 117) (cb := 12) (av := [.int (nI x), .int (nI y)]) (rest := []) C hR rfl (Or.inl ⟨1177, by decide⟩) kX12_at sX12_at (c_X12_at g (I_X12_isStaleAt I x y w h) (((31 : Int64) * (((31 : Int64) * (((31 : Int64) * J) + ((r_X12_pathOf I (nI x) (nI y) w h)).toInt64)) + ((r_X12_pathTileOf I (nI x) (nI y) w h)).toInt64)) + ((nI 1)).toInt64) x y ) rfl rfl (by decide +kernel) rfl (by decide) (Nat.le_of_ble_eq_true rfl) rfl ⟨Nat.zero_le _, Nat.zero_le _⟩ ?_
    refine EV_blk (own := 12) C rfl [(.istore_n 3, 0, 0, 0, 0), (.aload_n 0, 0, 0, 0, 0), (.aload_n 0, 0, 0, 0, 0), (.getfield 7, 12, 0, 899, 0), (.iload_n 3, 0, 0, 0, 0)] (pc' := 51) (by decide +kernel) (lv' := [some (.ref 117), some (.int (nI x)), some (.int (nI y)), some (.int (nI (343 + 10 * (10 * y + x)))), none]) (st' := [.int (nI (343 + 10 * (10 * y + x))), .ref 118, .ref 117]) (I' := (I_X12_isStaleAt I x y w h)) (J' := (((31 : Int64) * (((31 : Int64) * (((31 : Int64) * J) + ((r_X12_pathOf I (nI x) (nI y) w h)).toInt64)) + ((r_X12_pathTileOf I (nI x) (nI y) w h)).toInt64)) + ((nI 1)).toInt64)) rfl ?_
    refine EV_iald (j := (343 + 10 * (10 * y + x))) C (by decide +kernel) rfl (nI_toInt (by omega)) (by omega) ?_
    refine EV_cV (own := 12) (idx := 231) (μ' := mX12_note) (b := 117) (cb := 12) (av := [.int ((I_X12_isStaleAt I x y w h) 118 (343 + 10 * (10 * y + x)))]) (rest := []) C hR rfl (Or.inl ⟨1282, by decide⟩) kX12_note sX12_note (c_X12_note g (I_X12_isStaleAt I x y w h) (((31 : Int64) * (((31 : Int64) * (((31 : Int64) * J) + ((r_X12_pathOf I (nI x) (nI y) w h)).toInt64)) + ((r_X12_pathTileOf I (nI x) (nI y) w h)).toInt64)) + ((nI 1)).toInt64) ((I_X12_isStaleAt I x y w h) 118 (343 + 10 * (10 * y + x))) ) rfl rfl (by decide +kernel) rfl (by decide) (Nat.le_of_ble_eq_true rfl) rfl ⟨Nat.zero_le _, Nat.zero_le _⟩ ?_
    refine EV_blk (own := 12) C rfl [(.iconst 0, 0, 0, 0, (nI 0)), (.istore 4, 0, 0, 0, 0)] (pc' := 58) (by decide +kernel) (lv' := [some (.ref 117), some (.int (nI x)), some (.int (nI y)), some (.int (nI (343 + 10 * (10 * y + x)))), some (.int (nI 0))]) (st' := []) (I' := (I_X12_isStaleAt I x y w h)) (J' := (((31 : Int64) * (((31 : Int64) * (((31 : Int64) * (((31 : Int64) * J) + ((r_X12_pathOf I (nI x) (nI y) w h)).toInt64)) + ((r_X12_pathTileOf I (nI x) (nI y) w h)).toInt64)) + ((nI 1)).toInt64)) + (((I_X12_isStaleAt I x y w h) 118 (343 + 10 * (10 * y + x)))).toInt64)) rfl ?_
    refine lp_mnc1 C hR (I_X12_isStaleAt I x y w h) x y (343 + 10 * (10 * y + x)) (tq_N (I 118 (343 + 10 * (10 * y + x)))) (by omega) (by rw [fr_X12_isStaleAt _ _ _ _ _ (by decide)]; exact tq_nIN (hpc (10 * y + x) (by omega)).1) (by have := (hpc (10 * y + x) (by omega)); unfold tq_N; omega) (4 * tq_N (I 118 (343 + 10 * (10 * y + x)))) 0 (((31 : Int64) * (((31 : Int64) * (((31 : Int64) * (((31 : Int64) * J) + ((r_X12_pathOf I (nI x) (nI y) w h)).toInt64)) + ((r_X12_pathTileOf I (nI x) (nI y) w h)).toInt64)) + ((nI 1)).toInt64)) + (((I_X12_isStaleAt I x y w h) 118 (343 + 10 * (10 * y + x)))).toInt64) (by omega) ?_
    exact EV_vret C hZ rfl (by decide +kernel) (Nat.le_refl _) (Nat.le_refl _) ⟨rfl, rfl, rfl, by simp only [I_X12_noteCell, if_neg h1], by simp only [J_X12_noteCell, if_neg h1]⟩
theorem fr_X12_noteCell (I : tq_I) (J : Int64) (x y : Nat) (w h : Nat) {cz : Nat} (hc : cz ≠ 117 ∧ cz ≠ 124 ∧ cz ≠ 125 ∧ cz ≠ 126 ∧ cz ≠ 127) (jz : Nat) : I_X12_noteCell I J x y w h cz jz = I cz jz := by
  obtain ⟨hc0, hc1, hc2, hc3, hc4⟩ := hc
  simp only [I_X12_noteCell]
  (repeat' split) <;> simp (disch := first | assumption | (simp only [ne_eq] at *; simp [*])) [tq_u, tq_cp, hc0, hc1, hc2, hc3, hc4, fr_X12_touches, fr_ta1, fr_X12_touchesAll, fr_cps1, fr_X12_copies, fr_sav, fr_bg1, fr_bg2, fr_X12_begins, fr_ly1, fr_X12_lays, fr_bgn1, fr_X12_begin, fr_X12_setCorner, fr_fi1, fr_X12_fill, fr_fg1, fr_X12_forgets, fr_rc1, fr_rc2, fr_X12_reaches, fr_mfl1, fr_X12_flood, fr_mrg1, fr_X12_regions, fr_mra1, fr_X12_raise, fr_sp1, fr_X12_setPath, fr_sr1, fr_sr2, fr_X12_setRank, fr_X12_becomes, fr_X12_setTiles, fr_X12_setVariants, fr_X12_setSeed, fr_X12_setBorder, fr_X12_makesUp, fr_X12_finds, fr_X12_parts, fr_put, fr_mfy2, fr_X12_findsLayers, fr_mfp1, fr_mfp2, fr_X12_findsPieces, fr_X12_layers, fr_X12_layer, fr_X12_pieces, fr_X12_piece, fr_X12_isStaleAt, fr_mpa1, fr_X12_paints, fr_X12_isStale, fr_mst2, fr_X12_stale, fr_mpt1, fr_X12_paint, fr_X12_paintCell, fr_mfk2, fr_mfk3, fr_X12_findsKinds, fr_X12_kinds, fr_X12_kind, fr_X12_undo, fr_X12_here, fr_X12_type, fr_X12_clearText, fr_X12_number, fr_mri1, fr_X12_readsItem, fr_rwS, fr_X12_readsRow, fr_raE, fr_X12_readsAll, fr_X12_textFault, fr_mld1, fr_X12_load, fr_X12_puts, fr_X12_writesItem, fr_mwr1, fr_mwr2, fr_X12_write]
def f_mdg1 (I : tq_I) (y : Nat) (w h : Nat) (i : Nat) (a : Int64) : Int64 := (((31 : Int64) * a) + ((I 118 (22 + 11 * y + i))).toInt64)
set_option maxRecDepth 20000 in
theorem lp_mdg1 {g : tq_G} {x0 : tq_X} (C : tq_C g mX12_digest x0) (hR : tq_ht x0 7 0 0) (I : tq_I) (y : Nat) (w h : Nat) (k : tr_wh I w h) (hw10 : w ≤ 10) (hy : y ≤ 10) : ∀ (n i : Nat) (a : Int64), i + n = w + 1 → EV g mX12_digest x0 0 0 67 [some (.ref 117), some (.int (nI y)), some (.int (nI (i + n)))] [] (tq_SC ++ tq_SR) tq_RR I (tq_it (f_mdg1 I y w h) n i a) → EV g mX12_digest x0 0 0 41 [some (.ref 117), some (.int (nI y)), some (.int (nI i))] [] (tq_SC ++ tq_SR) tq_RR I a := by
  intro n
  induction n with
  | zero =>
    intro i a hi kk
    rw [Nat.add_zero] at kk
    refine EV_blk (own := 12) C rfl [(.iload_n 2, 0, 0, 0, 0), (.aload_n 0, 0, 0, 0, 0), (.getfield 7, 12, 0, 899, 0), (.iconst 0, 0, 0, 0, (nI 0))] (pc' := 47) (by decide +kernel) (lv' := [some (.ref 117), some (.int (nI y)), some (.int (nI i))]) (st' := [.int (nI 0), .ref 118, .int (nI i)]) (I' := I) (J' := a) rfl ?_
    refine EV_iald (j := 0) C (by decide +kernel) rfl (nI_toInt (by omega)) (by omega) ?_
    refine EV_icmp_gt (off := 19) (tgt := 67) C (by decide +kernel) (by decide) (fun h1 => ?_) (fun h1 => ?_)
    · skip
      exact kk
    · skip
      exact absurd h1 (by simp (disch := omega) only [Int32.lt_iff_toInt_lt, Int32.le_iff_toInt_le, Int32.toInt_zero, nI_toInt, tq_m1, k.1]; omega)
  | succ n ih =>
    intro i a hi kk
    rw [show i + (n + 1) = (i + 1) + n by omega] at kk
    refine EV_blk (own := 12) C rfl [(.iload_n 2, 0, 0, 0, 0), (.aload_n 0, 0, 0, 0, 0), (.getfield 7, 12, 0, 899, 0), (.iconst 0, 0, 0, 0, (nI 0))] (pc' := 47) (by decide +kernel) (lv' := [some (.ref 117), some (.int (nI y)), some (.int (nI i))]) (st' := [.int (nI 0), .ref 118, .int (nI i)]) (I' := I) (J' := a) rfl ?_
    refine EV_iald (j := 0) C (by decide +kernel) rfl (nI_toInt (by omega)) (by omega) ?_
    refine EV_icmp_gt (off := 19) (tgt := 67) C (by decide +kernel) (by decide) (fun h1 => ?_) (fun h1 => ?_)
    · skip
      exact absurd h1 (by simp (disch := omega) only [Int32.lt_iff_toInt_lt, Int32.le_iff_toInt_le, Int32.toInt_zero, nI_toInt, tq_m1, k.1]; omega)
    · skip
      refine EV_blk (own := 12) C rfl [(.aload_n 0, 0, 0, 0, 0), (.aload_n 0, 0, 0, 0, 0), (.iload_n 2, 0, 0, 0, 0), (.iload_n 1, 0, 0, 0, 0)] (pc' := 55) (by decide +kernel) (lv' := [some (.ref 117), some (.int (nI y)), some (.int (nI i))]) (st' := [.int (nI y), .int (nI i), .ref 117, .ref 117]) (I' := I) (J' := a) rfl ?_
      refine EV_cV (own := 12) (idx := 76) (μ' := mX12_cornerOf) (b := 117) (cb := 12) (av := [.int (nI i), .int (nI y)]) (rest := [.ref 117]) C hR rfl (Or.inl ⟨1006, by decide⟩) kX12_cornerOf sX12_cornerOf (c_X12_cornerOf g I a i y (by omega) (by omega)) rfl rfl (by decide +kernel) rfl (by decide) (Nat.le_of_ble_eq_true rfl) rfl ⟨Nat.zero_le _, Nat.zero_le _⟩ ?_
      refine EV_cV (own := 12) (idx := 231) (μ' := mX12_note) (b := 117) (cb := 12) (av := [.int (I 118 (22 + 11 * y + i))]) (rest := []) C hR rfl (Or.inl ⟨1282, by decide⟩) kX12_note sX12_note (c_X12_note g I a (I 118 (22 + 11 * y + i)) ) rfl rfl (by decide +kernel) rfl (by decide) (Nat.le_of_ble_eq_true rfl) rfl ⟨Nat.zero_le _, Nat.zero_le _⟩ ?_
      refine EV_blk (own := 12) C rfl [(.iinc 2 1, 0, 0, 0, (nI 1)), (.goto (-23), 0, 0, 0, 0)] (pc' := 41) (by decide +kernel) (lv' := [some (.ref 117), some (.int (nI y)), some (.int ((nI i) + (nI 1)))]) (st' := []) (I' := I) (J' := (((31 : Int64) * a) + ((I 118 (22 + 11 * y + i))).toInt64)) rfl ?_
      rw [show ((nI i) + (nI 1)) = (nI (i + 1)) from by simp (disch := omega) only [nI_add, tq_mul] <;> exact congrArg nI (by omega)]
      rw [tq_its, show (f_mdg1 I y w h) i a = (((31 : Int64) * a) + ((I 118 (22 + 11 * y + i))).toInt64) from by simp only [f_mdg1, if_neg h1]] at kk
      exact ih (i + 1) (((31 : Int64) * a) + ((I 118 (22 + 11 * y + i))).toInt64) (by omega) kk
def f_mdg2 (I : tq_I) (w h : Nat) (i : Nat) (a : Int64) : Int64 := (tq_it (f_mdg1 I i w h) (w + 1) 0 a)
set_option maxRecDepth 20000 in
theorem lp_mdg2 {g : tq_G} {x0 : tq_X} (C : tq_C g mX12_digest x0) (hR : tq_ht x0 7 0 0) (I : tq_I) (w h : Nat) (k : tr_wh I w h) (hw10 : w ≤ 10) (hh10 : h ≤ 10) : ∀ (n i : Nat) (a : Int64), i + n = h + 1 → EV g mX12_digest x0 0 0 73 [some (.ref 117), some (.int (nI (i + n))), none] [] (tq_SC ++ tq_SR) tq_RR I (tq_it (f_mdg2 I w h) n i a) → EV g mX12_digest x0 0 0 29 [some (.ref 117), some (.int (nI i)), none] [] (tq_SC ++ tq_SR) tq_RR I a := by
  intro n
  induction n with
  | zero =>
    intro i a hi kk
    rw [Nat.add_zero] at kk
    refine EV_blk (own := 12) C rfl [(.iload_n 1, 0, 0, 0, 0), (.aload_n 0, 0, 0, 0, 0), (.getfield 7, 12, 0, 899, 0), (.iconst 1, 0, 0, 0, (nI 1))] (pc' := 35) (by decide +kernel) (lv' := [some (.ref 117), some (.int (nI i)), none]) (st' := [.int (nI 1), .ref 118, .int (nI i)]) (I' := I) (J' := a) rfl ?_
    refine EV_iald (j := 1) C (by decide +kernel) rfl (nI_toInt (by omega)) (by omega) ?_
    refine EV_icmp_gt (off := 37) (tgt := 73) C (by decide +kernel) (by decide) (fun h1 => ?_) (fun h1 => ?_)
    · skip
      exact kk
    · skip
      exact absurd h1 (by simp (disch := omega) only [Int32.lt_iff_toInt_lt, Int32.le_iff_toInt_le, Int32.toInt_zero, nI_toInt, tq_m1, k.2.1]; omega)
  | succ n ih =>
    intro i a hi kk
    rw [show i + (n + 1) = (i + 1) + n by omega] at kk
    refine EV_blk (own := 12) C rfl [(.iload_n 1, 0, 0, 0, 0), (.aload_n 0, 0, 0, 0, 0), (.getfield 7, 12, 0, 899, 0), (.iconst 1, 0, 0, 0, (nI 1))] (pc' := 35) (by decide +kernel) (lv' := [some (.ref 117), some (.int (nI i)), none]) (st' := [.int (nI 1), .ref 118, .int (nI i)]) (I' := I) (J' := a) rfl ?_
    refine EV_iald (j := 1) C (by decide +kernel) rfl (nI_toInt (by omega)) (by omega) ?_
    refine EV_icmp_gt (off := 37) (tgt := 73) C (by decide +kernel) (by decide) (fun h1 => ?_) (fun h1 => ?_)
    · skip
      exact absurd h1 (by simp (disch := omega) only [Int32.lt_iff_toInt_lt, Int32.le_iff_toInt_le, Int32.toInt_zero, nI_toInt, tq_m1, k.2.1]; omega)
    · skip
      refine EV_blk (own := 12) C rfl [(.iconst 0, 0, 0, 0, (nI 0)), (.istore_n 2, 0, 0, 0, 0)] (pc' := 41) (by decide +kernel) (lv' := [some (.ref 117), some (.int (nI i)), some (.int (nI 0))]) (st' := []) (I' := I) (J' := a) rfl ?_
      refine lp_mdg1 C hR I i w h k hw10 (by omega) (w + 1) 0 a (by omega) ?_
      refine EV_blk (own := 12) C rfl [(.iinc 1 1, 0, 0, 0, (nI 1)), (.goto (-41), 0, 0, 0, 0)] (pc' := 29) (by decide +kernel) (lv' := [some (.ref 117), some (.int ((nI i) + (nI 1))), some (.int (nI ((0 + (w + 1)))))]) (st' := []) (I' := I) (J' := (tq_it (f_mdg1 I i w h) (w + 1) 0 a)) rfl ?_
      refine EV_fg (lv' := [some (.ref 117), some (.int ((nI i) + (nI 1))), none]) ⟨rfl, rfl, trivial⟩ ?_
      rw [show ((nI i) + (nI 1)) = (nI (i + 1)) from by simp (disch := omega) only [nI_add, tq_mul] <;> exact congrArg nI (by omega)]
      rw [tq_its, show (f_mdg2 I w h) i a = (tq_it (f_mdg1 I i w h) (w + 1) 0 a) from by simp only [f_mdg2, if_neg h1]] at kk
      exact ih (i + 1) (tq_it (f_mdg1 I i w h) (w + 1) 0 a) (by omega) kk
theorem tr_ncI {I : tq_I} {J : Int64} {x y w h : Nat} : I_X12_noteCell I J x y w h = I_X12_isStaleAt I x y w h := by
  unfold I_X12_noteCell
  split <;> rfl
def tr_bp (I : tq_I) (w h : Nat) : Prop := tr_bas I w h ∧ tr_pc I
theorem tr_bp.fr {I K : tq_I} {w h : Nat} (k : tr_bp I w h) (e : ∀ j, K 118 j = I 118 j) : tr_bp K w h := ⟨k.1.fr e, k.2.fr e⟩
theorem tr_bp.nc {I : tq_I} {J : Int64} {x y w h : Nat} (k : tr_bp I w h) : tr_bp (I_X12_noteCell I J x y w h) w h := by
  rw [tr_ncI]
  exact k.fr (fr_X12_isStaleAt _ _ _ _ _ (by decide))
def f_mdg3 (y : Nat) (w h : Nat) (i : Nat) (a : tq_I × Int64) : tq_I × Int64 := ((I_X12_noteCell a.1 a.2 i y w h), (J_X12_noteCell a.1 a.2 i y w h))
set_option maxRecDepth 20000 in
theorem lp_mdg3 {g : tq_G} {x0 : tq_X} (C : tq_C g mX12_digest x0) (hR : tq_ht x0 7 0 0) (y : Nat) (w h : Nat) (hw10 : w ≤ 10) (hy : y ≤ 9) : ∀ (n i : Nat) (a : tq_I × Int64), i + n = w → tr_bp a.1 w h → EV g mX12_digest x0 0 0 109 [some (.ref 117), some (.int (nI y)), some (.int (nI (i + n)))] [] (tq_SC ++ tq_SR) tq_RR ((tq_it (f_mdg3 y w h) n i a).1) ((tq_it (f_mdg3 y w h) n i a).2) → EV g mX12_digest x0 0 0 87 [some (.ref 117), some (.int (nI y)), some (.int (nI i))] [] (tq_SC ++ tq_SR) tq_RR a.1 a.2 := by
  intro n
  induction n with
  | zero =>
    intro i a hi hI kk
    rw [Nat.add_zero] at kk
    refine EV_blk (own := 12) C rfl [(.iload_n 2, 0, 0, 0, 0), (.aload_n 0, 0, 0, 0, 0), (.getfield 7, 12, 0, 899, 0), (.iconst 0, 0, 0, 0, (nI 0))] (pc' := 93) (by decide +kernel) (lv' := [some (.ref 117), some (.int (nI y)), some (.int (nI i))]) (st' := [.int (nI 0), .ref 118, .int (nI i)]) (I' := a.1) (J' := a.2) rfl ?_
    refine EV_iald (j := 0) C (by decide +kernel) rfl (nI_toInt (by omega)) (by omega) ?_
    refine EV_icmp_ge (off := 15) (tgt := 109) C (by decide +kernel) (by decide) (fun h1 => ?_) (fun h1 => ?_)
    · skip
      exact kk
    · skip
      exact absurd h1 (by simp (disch := omega) only [Int32.lt_iff_toInt_lt, Int32.le_iff_toInt_le, Int32.toInt_zero, nI_toInt, tq_m1, hI.1.1.1]; omega)
  | succ n ih =>
    intro i a hi hI kk
    rw [show i + (n + 1) = (i + 1) + n by omega] at kk
    refine EV_blk (own := 12) C rfl [(.iload_n 2, 0, 0, 0, 0), (.aload_n 0, 0, 0, 0, 0), (.getfield 7, 12, 0, 899, 0), (.iconst 0, 0, 0, 0, (nI 0))] (pc' := 93) (by decide +kernel) (lv' := [some (.ref 117), some (.int (nI y)), some (.int (nI i))]) (st' := [.int (nI 0), .ref 118, .int (nI i)]) (I' := a.1) (J' := a.2) rfl ?_
    refine EV_iald (j := 0) C (by decide +kernel) rfl (nI_toInt (by omega)) (by omega) ?_
    refine EV_icmp_ge (off := 15) (tgt := 109) C (by decide +kernel) (by decide) (fun h1 => ?_) (fun h1 => ?_)
    · skip
      exact absurd h1 (by simp (disch := omega) only [Int32.lt_iff_toInt_lt, Int32.le_iff_toInt_le, Int32.toInt_zero, nI_toInt, tq_m1, hI.1.1.1]; omega)
    · skip
      refine EV_blk (own := 12) C rfl [(.aload_n 0, 0, 0, 0, 0), (.iload_n 2, 0, 0, 0, 0), (.iload_n 1, 0, 0, 0, 0)] (pc' := 100) (by decide +kernel) (lv' := [some (.ref 117), some (.int (nI y)), some (.int (nI i))]) (st' := [.int (nI y), .int (nI i), .ref 117]) (I' := a.1) (J' := a.2) rfl ?_
      refine EV_cV (own := 12) (idx := 236) (μ' := mX12_noteCell) (b := 117) (cb := 12) (av := [.int (nI i), .int (nI y)]) (rest := []) C hR rfl (Or.inl ⟨1287, by decide⟩) kX12_noteCell sX12_noteCell (c_X12_noteCell g a.1 a.2 i y w h (by omega) (by omega) hI.1 hI.2) rfl rfl (by decide +kernel) rfl (by decide) (Nat.le_of_ble_eq_true rfl) rfl ⟨Nat.zero_le _, Nat.zero_le _⟩ ?_
      refine EV_blk (own := 12) C rfl [(.iinc 2 1, 0, 0, 0, (nI 1)), (.goto (-19), 0, 0, 0, 0)] (pc' := 87) (by decide +kernel) (lv' := [some (.ref 117), some (.int (nI y)), some (.int ((nI i) + (nI 1)))]) (st' := []) (I' := (I_X12_noteCell a.1 a.2 i y w h)) (J' := (J_X12_noteCell a.1 a.2 i y w h)) rfl ?_
      rw [show ((nI i) + (nI 1)) = (nI (i + 1)) from by simp (disch := omega) only [nI_add, tq_mul] <;> exact congrArg nI (by omega)]
      rw [tq_its, show (f_mdg3 y w h) i a = ((I_X12_noteCell a.1 a.2 i y w h), (J_X12_noteCell a.1 a.2 i y w h)) from by simp only [f_mdg3, if_neg h1]] at kk
      have ihx := ih (i + 1) ((I_X12_noteCell a.1 a.2 i y w h), (J_X12_noteCell a.1 a.2 i y w h)) (by omega)
      dsimp only at ihx
      exact ihx hI.nc kk
theorem tr_dg3I {y w h : Nat} (n i : Nat) (a : tq_I × Int64) (k : tr_bp a.1 w h) : tr_bp (tq_it (f_mdg3 y w h) n i a).1 w h := tq_itP (fun (b : tq_I × Int64) => tr_bp b.1 w h) (fun i b hb => by unfold f_mdg3; dsimp only; exact hb.nc) n i a k
def f_mdg4 (w h : Nat) (i : Nat) (a : tq_I × Int64) : tq_I × Int64 := ((tq_it (f_mdg3 i w h) w 0 (a.1, a.2)).1, (tq_it (f_mdg3 i w h) w 0 (a.1, a.2)).2)
set_option maxRecDepth 20000 in
theorem lp_mdg4 {g : tq_G} {x0 : tq_X} (C : tq_C g mX12_digest x0) (hR : tq_ht x0 7 0 0) (w h : Nat) (hw10 : w ≤ 10) (hh10 : h ≤ 10) : ∀ (n i : Nat) (a : tq_I × Int64), i + n = h → tr_bp a.1 w h → EV g mX12_digest x0 0 0 115 [some (.ref 117), some (.int (nI (i + n))), none] [] (tq_SC ++ tq_SR) tq_RR ((tq_it (f_mdg4 w h) n i a).1) ((tq_it (f_mdg4 w h) n i a).2) → EV g mX12_digest x0 0 0 75 [some (.ref 117), some (.int (nI i)), none] [] (tq_SC ++ tq_SR) tq_RR a.1 a.2 := by
  intro n
  induction n with
  | zero =>
    intro i a hi hI kk
    rw [Nat.add_zero] at kk
    refine EV_blk (own := 12) C rfl [(.iload_n 1, 0, 0, 0, 0), (.aload_n 0, 0, 0, 0, 0), (.getfield 7, 12, 0, 899, 0), (.iconst 1, 0, 0, 0, (nI 1))] (pc' := 81) (by decide +kernel) (lv' := [some (.ref 117), some (.int (nI i)), none]) (st' := [.int (nI 1), .ref 118, .int (nI i)]) (I' := a.1) (J' := a.2) rfl ?_
    refine EV_iald (j := 1) C (by decide +kernel) rfl (nI_toInt (by omega)) (by omega) ?_
    refine EV_icmp_ge (off := 33) (tgt := 115) C (by decide +kernel) (by decide) (fun h1 => ?_) (fun h1 => ?_)
    · skip
      exact kk
    · skip
      exact absurd h1 (by simp (disch := omega) only [Int32.lt_iff_toInt_lt, Int32.le_iff_toInt_le, Int32.toInt_zero, nI_toInt, tq_m1, hI.1.1.2.1]; omega)
  | succ n ih =>
    intro i a hi hI kk
    rw [show i + (n + 1) = (i + 1) + n by omega] at kk
    refine EV_blk (own := 12) C rfl [(.iload_n 1, 0, 0, 0, 0), (.aload_n 0, 0, 0, 0, 0), (.getfield 7, 12, 0, 899, 0), (.iconst 1, 0, 0, 0, (nI 1))] (pc' := 81) (by decide +kernel) (lv' := [some (.ref 117), some (.int (nI i)), none]) (st' := [.int (nI 1), .ref 118, .int (nI i)]) (I' := a.1) (J' := a.2) rfl ?_
    refine EV_iald (j := 1) C (by decide +kernel) rfl (nI_toInt (by omega)) (by omega) ?_
    refine EV_icmp_ge (off := 33) (tgt := 115) C (by decide +kernel) (by decide) (fun h1 => ?_) (fun h1 => ?_)
    · skip
      exact absurd h1 (by simp (disch := omega) only [Int32.lt_iff_toInt_lt, Int32.le_iff_toInt_le, Int32.toInt_zero, nI_toInt, tq_m1, hI.1.1.2.1]; omega)
    · skip
      refine EV_blk (own := 12) C rfl [(.iconst 0, 0, 0, 0, (nI 0)), (.istore_n 2, 0, 0, 0, 0)] (pc' := 87) (by decide +kernel) (lv' := [some (.ref 117), some (.int (nI i)), some (.int (nI 0))]) (st' := []) (I' := a.1) (J' := a.2) rfl ?_
      have hlp := lp_mdg3 (g := g) C hR i w h hw10 (by omega) w 0 (a.1, a.2)
      dsimp only at hlp
      refine hlp (by omega) hI ?_
      clear hlp
      refine EV_blk (own := 12) C rfl [(.iinc 1 1, 0, 0, 0, (nI 1)), (.goto (-37), 0, 0, 0, 0)] (pc' := 75) (by decide +kernel) (lv' := [some (.ref 117), some (.int ((nI i) + (nI 1))), some (.int (nI ((0 + w))))]) (st' := []) (I' := (tq_it (f_mdg3 i w h) w 0 (a.1, a.2)).1) (J' := (tq_it (f_mdg3 i w h) w 0 (a.1, a.2)).2) rfl ?_
      refine EV_fg (lv' := [some (.ref 117), some (.int ((nI i) + (nI 1))), none]) ⟨rfl, rfl, trivial⟩ ?_
      rw [show ((nI i) + (nI 1)) = (nI (i + 1)) from by simp (disch := omega) only [nI_add, tq_mul] <;> exact congrArg nI (by omega)]
      rw [tq_its, show (f_mdg4 w h) i a = ((tq_it (f_mdg3 i w h) w 0 (a.1, a.2)).1, (tq_it (f_mdg3 i w h) w 0 (a.1, a.2)).2) from by simp only [f_mdg4, if_neg h1]] at kk
      have ihx := ih (i + 1) ((tq_it (f_mdg3 i w h) w 0 (a.1, a.2)).1, (tq_it (f_mdg3 i w h) w 0 (a.1, a.2)).2) (by omega)
      dsimp only at ihx
      exact ihx (tr_dg3I _ _ (a.1, a.2) hI) kk
def r_X12_digest (I : tq_I) (J : Int64) (w h : Nat) : Int64 := (((31 : Int64) * ((tq_it (f_mdg4 w h) h 0 (I, (tq_it (f_mdg2 I w h) (h + 1) 0 (((31 : Int64) * (((31 : Int64) * (17 : Int64)) + ((I 118 0)).toInt64)) + ((I 118 1)).toInt64)))).2)) + ((r_X12_touched ((tq_it (f_mdg4 w h) h 0 (I, (tq_it (f_mdg2 I w h) (h + 1) 0 (((31 : Int64) * (((31 : Int64) * (17 : Int64)) + ((I 118 0)).toInt64)) + ((I 118 1)).toInt64)))).1))).toInt64)
def I_X12_digest (I : tq_I) (J : Int64) (w h : Nat) : tq_I := ((tq_it (f_mdg4 w h) h 0 (I, (tq_it (f_mdg2 I w h) (h + 1) 0 (((31 : Int64) * (((31 : Int64) * (17 : Int64)) + ((I 118 0)).toInt64)) + ((I 118 1)).toInt64)))).1)
def J_X12_digest (I : tq_I) (J : Int64) (w h : Nat) : Int64 := (((31 : Int64) * ((tq_it (f_mdg4 w h) h 0 (I, (tq_it (f_mdg2 I w h) (h + 1) 0 (((31 : Int64) * (((31 : Int64) * (17 : Int64)) + ((I 118 0)).toInt64)) + ((I 118 1)).toInt64)))).2)) + ((r_X12_touched ((tq_it (f_mdg4 w h) h 0 (I, (tq_it (f_mdg2 I w h) (h + 1) 0 (((31 : Int64) * (((31 : Int64) * (17 : Int64)) + ((I 118 0)).toInt64)) + ((I 118 1)).toInt64)))).1))).toInt64)
set_option maxRecDepth 20000 in
theorem c_X12_digest (g : tq_G) (I : tq_I) (J : Int64) (w h : Nat) (k : tr_bp I w h) : CT g mX12_digest 7 0 0 [.ref 117] (tq_SC ++ tq_SR) tq_RR I J (tq_ret (tq_SC ++ tq_SR) tq_RR (some (.long (r_X12_digest I J w h))) (I_X12_digest I J w h) (J_X12_digest I J w h)) := by
  refine CT.ret kX12_digest (Nat.le_of_ble_eq_true rfl) (fun x0 C hR hZ => ?_)
  refine EV_en (lv' := [some (.ref 117), none, none]) 2 rfl ?_
  refine EV_blk (own := 12) C rfl [(.aload_n 0, 0, 0, 0, 0)] (pc' := 1) (by decide +kernel) (lv' := [some (.ref 117), none, none]) (st' := [.ref 117]) (I' := I) (J' := J) rfl ?_
  refine EV_ldc2 (own := 12) (idx := 234) (v := 17) (pl := 1281) C rfl (by decide) (by decide +kernel) ?_
  refine EV_putl2 (own := 12) (idx := 227) (pl := 924) C rfl (by decide) (by decide +kernel) ?_
  refine EV_blk (own := 12) C rfl [(.aload_n 0, 0, 0, 0, 0), (.aload_n 0, 0, 0, 0, 0), (.getfield 7, 12, 0, 899, 0), (.iconst 0, 0, 0, 0, (nI 0))] (pc' := 13) (by decide +kernel) (lv' := [some (.ref 117), none, none]) (st' := [.int (nI 0), .ref 118, .ref 117]) (I' := I) (J' := (17 : Int64)) rfl ?_
  refine EV_iald (j := 0) C (by decide +kernel) rfl (nI_toInt (by omega)) (by omega) ?_
  refine EV_cV (own := 12) (idx := 231) (μ' := mX12_note) (b := 117) (cb := 12) (av := [.int (I 118 0)]) (rest := []) C hR rfl (Or.inl ⟨1282, by decide⟩) kX12_note sX12_note (c_X12_note g I (17 : Int64) (I 118 0) ) rfl rfl (by decide +kernel) rfl (by decide) (Nat.le_of_ble_eq_true rfl) rfl ⟨Nat.zero_le _, Nat.zero_le _⟩ ?_
  refine EV_blk (own := 12) C rfl [(.aload_n 0, 0, 0, 0, 0), (.aload_n 0, 0, 0, 0, 0), (.getfield 7, 12, 0, 899, 0), (.iconst 1, 0, 0, 0, (nI 1))] (pc' := 23) (by decide +kernel) (lv' := [some (.ref 117), none, none]) (st' := [.int (nI 1), .ref 118, .ref 117]) (I' := I) (J' := (((31 : Int64) * (17 : Int64)) + ((I 118 0)).toInt64)) rfl ?_
  refine EV_iald (j := 1) C (by decide +kernel) rfl (nI_toInt (by omega)) (by omega) ?_
  refine EV_cV (own := 12) (idx := 231) (μ' := mX12_note) (b := 117) (cb := 12) (av := [.int (I 118 1)]) (rest := []) C hR rfl (Or.inl ⟨1282, by decide⟩) kX12_note sX12_note (c_X12_note g I (((31 : Int64) * (17 : Int64)) + ((I 118 0)).toInt64) (I 118 1) ) rfl rfl (by decide +kernel) rfl (by decide) (Nat.le_of_ble_eq_true rfl) rfl ⟨Nat.zero_le _, Nat.zero_le _⟩ ?_
  refine EV_blk (own := 12) C rfl [(.iconst 0, 0, 0, 0, (nI 0)), (.istore_n 1, 0, 0, 0, 0)] (pc' := 29) (by decide +kernel) (lv' := [some (.ref 117), some (.int (nI 0)), none]) (st' := []) (I' := I) (J' := (((31 : Int64) * (((31 : Int64) * (17 : Int64)) + ((I 118 0)).toInt64)) + ((I 118 1)).toInt64)) rfl ?_
  refine lp_mdg2 C hR I w h k.1.1 k.1.1.2.2.2.1 k.1.1.2.2.2.2.2 (h + 1) 0 (((31 : Int64) * (((31 : Int64) * (17 : Int64)) + ((I 118 0)).toInt64)) + ((I 118 1)).toInt64) (by omega) ?_
  refine EV_blk (own := 12) C rfl [(.iconst 0, 0, 0, 0, (nI 0)), (.istore_n 1, 0, 0, 0, 0)] (pc' := 75) (by decide +kernel) (lv' := [some (.ref 117), some (.int (nI 0)), none]) (st' := []) (I' := I) (J' := (tq_it (f_mdg2 I w h) (h + 1) 0 (((31 : Int64) * (((31 : Int64) * (17 : Int64)) + ((I 118 0)).toInt64)) + ((I 118 1)).toInt64))) rfl ?_
  have hlp := lp_mdg4 (g := g) C hR w h k.1.1.2.2.2.1 k.1.1.2.2.2.2.2 h 0 (I, (tq_it (f_mdg2 I w h) (h + 1) 0 (((31 : Int64) * (((31 : Int64) * (17 : Int64)) + ((I 118 0)).toInt64)) + ((I 118 1)).toInt64)))
  dsimp only at hlp
  refine hlp (by omega) k ?_
  clear hlp
  refine EV_blk (own := 12) C rfl [(.aload_n 0, 0, 0, 0, 0), (.aload_n 0, 0, 0, 0, 0)] (pc' := 117) (by decide +kernel) (lv' := [some (.ref 117), some (.int (nI ((0 + h)))), none]) (st' := [.ref 117, .ref 117]) (I' := (tq_it (f_mdg4 w h) h 0 (I, (tq_it (f_mdg2 I w h) (h + 1) 0 (((31 : Int64) * (((31 : Int64) * (17 : Int64)) + ((I 118 0)).toInt64)) + ((I 118 1)).toInt64)))).1) (J' := (tq_it (f_mdg4 w h) h 0 (I, (tq_it (f_mdg2 I w h) (h + 1) 0 (((31 : Int64) * (((31 : Int64) * (17 : Int64)) + ((I 118 0)).toInt64)) + ((I 118 1)).toInt64)))).2) rfl ?_
  refine EV_cV (own := 12) (idx := 239) (μ' := mX12_touched) (b := 117) (cb := 12) (av := []) (rest := [.ref 117]) C hR rfl (Or.inl ⟨1291, by decide⟩) kX12_touched sX12_touched (c_X12_touched g ((tq_it (f_mdg4 w h) h 0 (I, (tq_it (f_mdg2 I w h) (h + 1) 0 (((31 : Int64) * (((31 : Int64) * (17 : Int64)) + ((I 118 0)).toInt64)) + ((I 118 1)).toInt64)))).1) ((tq_it (f_mdg4 w h) h 0 (I, (tq_it (f_mdg2 I w h) (h + 1) 0 (((31 : Int64) * (((31 : Int64) * (17 : Int64)) + ((I 118 0)).toInt64)) + ((I 118 1)).toInt64)))).2)  ) rfl rfl (by decide +kernel) rfl (by decide) (Nat.le_of_ble_eq_true rfl) rfl ⟨Nat.zero_le _, Nat.zero_le _⟩ ?_
  refine EV_cV (own := 12) (idx := 231) (μ' := mX12_note) (b := 117) (cb := 12) (av := [.int (r_X12_touched ((tq_it (f_mdg4 w h) h 0 (I, (tq_it (f_mdg2 I w h) (h + 1) 0 (((31 : Int64) * (((31 : Int64) * (17 : Int64)) + ((I 118 0)).toInt64)) + ((I 118 1)).toInt64)))).1))]) (rest := []) C hR rfl (Or.inl ⟨1282, by decide⟩) kX12_note sX12_note (c_X12_note g ((tq_it (f_mdg4 w h) h 0 (I, (tq_it (f_mdg2 I w h) (h + 1) 0 (((31 : Int64) * (((31 : Int64) * (17 : Int64)) + ((I 118 0)).toInt64)) + ((I 118 1)).toInt64)))).1) ((tq_it (f_mdg4 w h) h 0 (I, (tq_it (f_mdg2 I w h) (h + 1) 0 (((31 : Int64) * (((31 : Int64) * (17 : Int64)) + ((I 118 0)).toInt64)) + ((I 118 1)).toInt64)))).2) (r_X12_touched ((tq_it (f_mdg4 w h) h 0 (I, (tq_it (f_mdg2 I w h) (h + 1) 0 (((31 : Int64) * (((31 : Int64) * (17 : Int64)) + ((I 118 0)).toInt64)) + ((I 118 1)).toInt64)))).1)) ) rfl rfl (by decide +kernel) rfl (by decide) (Nat.le_of_ble_eq_true rfl) rfl ⟨Nat.zero_le _, Nat.zero_le _⟩ ?_
  refine EV_blk (own := 12) C rfl [(.aload_n 0, 0, 0, 0, 0), (.getfield 227, 12, 25, 924, 0)] (pc' := 127) (by decide +kernel) (lv' := [some (.ref 117), some (.int (nI ((0 + h)))), none]) (st' := [.long (((31 : Int64) * ((tq_it (f_mdg4 w h) h 0 (I, (tq_it (f_mdg2 I w h) (h + 1) 0 (((31 : Int64) * (((31 : Int64) * (17 : Int64)) + ((I 118 0)).toInt64)) + ((I 118 1)).toInt64)))).2)) + ((r_X12_touched ((tq_it (f_mdg4 w h) h 0 (I, (tq_it (f_mdg2 I w h) (h + 1) 0 (((31 : Int64) * (((31 : Int64) * (17 : Int64)) + ((I 118 0)).toInt64)) + ((I 118 1)).toInt64)))).1))).toInt64)]) (I' := ((tq_it (f_mdg4 w h) h 0 (I, (tq_it (f_mdg2 I w h) (h + 1) 0 (((31 : Int64) * (((31 : Int64) * (17 : Int64)) + ((I 118 0)).toInt64)) + ((I 118 1)).toInt64)))).1)) (J' := (((31 : Int64) * ((tq_it (f_mdg4 w h) h 0 (I, (tq_it (f_mdg2 I w h) (h + 1) 0 (((31 : Int64) * (((31 : Int64) * (17 : Int64)) + ((I 118 0)).toInt64)) + ((I 118 1)).toInt64)))).2)) + ((r_X12_touched ((tq_it (f_mdg4 w h) h 0 (I, (tq_it (f_mdg2 I w h) (h + 1) 0 (((31 : Int64) * (((31 : Int64) * (17 : Int64)) + ((I 118 0)).toInt64)) + ((I 118 1)).toInt64)))).1))).toInt64)) rfl ?_
  exact EV_lret C hZ rfl (by decide +kernel) (Nat.le_refl _) (Nat.le_refl _) ⟨tq_somel (by simp only [r_X12_digest]), rfl, rfl, by simp only [I_X12_digest], by simp only [J_X12_digest]⟩
