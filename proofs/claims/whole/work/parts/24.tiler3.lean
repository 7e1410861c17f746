/-! what is written; the digest -/
section TQ8
variable {g : tq_G} {μ : tq_M} {x : tq_X} {k n pc : Nat} {lv : List (Option Value)} {st : List Value} {sh : List tq_S} {R : tq_R} {I : tq_I} {J : Int64}
theorem tq_klin {own idx pl : Nat} {v : Int64} (h : (own, idx, v, pl) ∈ tq_kl) : .constantLong (tq_cn own) idx v ∈ tq_ws := by
  have := List.all_eq_true.mp tq_kl_ok _ h
  exact tq_inW pl (of_decide_eq_true this) rfl
theorem EV_ldc2 (C : tq_C g μ x) {own idx pl : Nat} {v : Int64} (hown : tq_cn own = μ.1.cls) (hf : (own, idx, v, pl) ∈ tq_kl) (hd : decode μ.2.1 pc = .ok (.ldc2_w idx, 3)) (kk : EV g μ x k n (pc + 3) lv (.long v :: st) sh R I J) : EV g μ x k n pc lv st sh R I J := by
  have hw := C.2.2.2.2.2.2.2.1 _ (tq_klin hf)
  rw [hown] at hw
  exact fun H locs ls hJ hq hl => lv_ldc2 C.1 C.2.1 C.2.2.2.2.2.2.1 hw hd (kk H locs ls hJ hq hl)
end TQ8
def tq_outP (I : tq_I) : Prop := 0 ≤ (I 113 1).toInt ∧ (I 113 1).toInt ≤ 150
theorem tq_out_app {I : tq_I} {c : Int32} (h : tq_outP I) : tq_outP (I_append113 I c) := by
  unfold I_append113
  split
  · exact h
  · rename_i hq
    have hl : (I 113 1).toInt < 150 := by simp (disch := omega) only [Int32.le_iff_toInt_le, nI_toInt] at hq; omega
    have e := (tq_incr (m := 150) h.1 (by have := h.2; omega) (by decide)).1
    show 0 ≤ (I 113 1 + nI 1).toInt ∧ (I 113 1 + nI 1).toInt ≤ 150
    have := h.1
    omega
def I_X11_writeItem (I : tq_I) (n t : Int32) : tq_I := (if n < (nI 10) then (if n ≤ (nI 1) then (I_append113 I ((nI 97) + t)) else (I_append113 (I_append113 I ((nI 48) + (tq_rem n (nI 10)))) ((nI 97) + t))) else (if n ≤ (nI 1) then (I_append113 (I_append113 I ((nI 48) + (n / (nI 10)))) ((nI 97) + t)) else (I_append113 (I_append113 (I_append113 I ((nI 48) + (n / (nI 10)))) ((nI 48) + (tq_rem n (nI 10)))) ((nI 97) + t))))
set_option maxRecDepth 20000 in
theorem c_X11_writeItem (g : tq_G) (rest : List tq_S) (I : tq_I) (J : Int64) (n t : Int32) (hI : tq_outP I) : CT g mX11_writeItem 1 0 0 [.ref 0, .int n, .int t] (tq_SC ++ rest) tq_RR I J (tq_ret (tq_SC ++ rest) tq_RR none (I_X11_writeItem I n t) J) := by
  refine CT.ret kX11_writeItem (Nat.le_of_ble_eq_true rfl) (fun x0 C hR hZ => ?_)
  refine EV_en (lv' := [some (.ref 0), some (.int n), some (.int t)]) 0 rfl ?_
  refine EV_blk (own := 11) C rfl [(.iload_n 1, 0, 0, 0, 0), (.bipush 10, 0, 0, 0, (nI 10))] (pc' := 3) (by decide +kernel) (lv' := [some (.ref 0), some (.int n), some (.int t)]) (st' := [.int (nI 10), .int n]) (I' := I) (J' := J) rfl ?_
  refine EV_icmp_lt (off := 17) (tgt := 20) C (by decide +kernel) (by decide) (fun h1 => ?_) (fun h1 => ?_)
  · skip
    refine EV_blk (own := 11) C rfl [(.iload_n 1, 0, 0, 0, 0), (.iconst 1, 0, 0, 0, (nI 1))] (pc' := 22) (by decide +kernel) (lv' := [some (.ref 0), some (.int n), some (.int t)]) (st' := [.int (nI 1), .int n]) (I' := I) (J' := J) rfl ?_
    refine EV_icmp_le (off := 17) (tgt := 39) C (by decide +kernel) (by decide) (fun h2 => ?_) (fun h2 => ?_)
    · skip
      refine EV_blk (own := 11) C rfl [(.aload_n 0, 0, 0, 0, 0), (.getfield 51, 11, 6, 374, 0), (.bipush 97, 0, 0, 0, (nI 97)), (.iload_n 2, 0, 0, 0, 0), (.iadd, 0, 0, 0, 0)] (pc' := 47) (by decide +kernel) (lv' := [some (.ref 0), some (.int n), some (.int t)]) (st' := [.int ((nI 97) + t), .ref 113]) (I' := I) (J' := J) rfl ?_
      refine EV_cV (own := 11) (idx := 272) (μ' := mX0_append) (b := 113) (cb := 0) (av := [.int ((nI 97) + t)]) (rest := []) C hR rfl (Or.inl ⟨794, by decide⟩) kX0_append sX0_append (c_append113 g rest I J ((nI 97) + t) hI.1) rfl rfl (by decide +kernel) rfl (by decide) (Nat.le_of_ble_eq_true rfl) rfl ⟨Nat.zero_le _, Nat.zero_le _⟩ ?_
      exact EV_vret C hZ rfl (by decide +kernel) (Nat.le_refl _) (Nat.le_refl _) ⟨rfl, rfl, rfl, by simp only [I_X11_writeItem, if_pos h1, if_pos h2], rfl⟩
    · skip
      refine EV_blk (own := 11) C rfl [(.aload_n 0, 0, 0, 0, 0), (.getfield 51, 11, 6, 374, 0), (.bipush 48, 0, 0, 0, (nI 48)), (.iload_n 1, 0, 0, 0, 0), (.bipush 10, 0, 0, 0, (nI 10))] (pc' := 34) (by decide +kernel) (lv' := [some (.ref 0), some (.int n), some (.int t)]) (st' := [.int (nI 10), .int n, .int (nI 48), .ref 113]) (I' := I) (J' := J) rfl ?_
      refine EV_irem C (by decide +kernel) (by decide) ?_
      refine EV_blk (own := 11) C rfl [(.iadd, 0, 0, 0, 0)] (pc' := 36) (by decide +kernel) (lv' := [some (.ref 0), some (.int n), some (.int t)]) (st' := [.int ((nI 48) + (tq_rem n (nI 10))), .ref 113]) (I' := I) (J' := J) rfl ?_
      refine EV_cV (own := 11) (idx := 272) (μ' := mX0_append) (b := 113) (cb := 0) (av := [.int ((nI 48) + (tq_rem n (nI 10)))]) (rest := []) C hR rfl (Or.inl ⟨794, by decide⟩) kX0_append sX0_append (c_append113 g rest I J ((nI 48) + (tq_rem n (nI 10))) hI.1) rfl rfl (by decide +kernel) rfl (by decide) (Nat.le_of_ble_eq_true rfl) rfl ⟨Nat.zero_le _, Nat.zero_le _⟩ ?_
      refine EV_blk (own := 11) C rfl [(.aload_n 0, 0, 0, 0, 0), (.getfield 51, 11, 6, 374, 0), (.bipush 97, 0, 0, 0, (nI 97)), (.iload_n 2, 0, 0, 0, 0), (.iadd, 0, 0, 0, 0)] (pc' := 47) (by decide +kernel) (lv' := [some (.ref 0), some (.int n), some (.int t)]) (st' := [.int ((nI 97) + t), .ref 113]) (I' := (I_append113 I ((nI 48) + (tq_rem n (nI 10))))) (J' := J) rfl ?_
      refine EV_cV (own := 11) (idx := 272) (μ' := mX0_append) (b := 113) (cb := 0) (av := [.int ((nI 97) + t)]) (rest := []) C hR rfl (Or.inl ⟨794, by decide⟩) kX0_append sX0_append (c_append113 g rest (I_append113 I ((nI 48) + (tq_rem n (nI 10)))) J ((nI 97) + t) (tq_out_app hI).1) rfl rfl (by decide +kernel) rfl (by decide) (Nat.le_of_ble_eq_true rfl) rfl ⟨Nat.zero_le _, Nat.zero_le _⟩ ?_
      exact EV_vret C hZ rfl (by decide +kernel) (Nat.le_refl _) (Nat.le_refl _) ⟨rfl, rfl, rfl, by simp only [I_X11_writeItem, if_pos h1, if_neg h2], rfl⟩
  · skip
    refine EV_blk (own := 11) C rfl [(.aload_n 0, 0, 0, 0, 0), (.getfield 51, 11, 6, 374, 0), (.bipush 48, 0, 0, 0, (nI 48)), (.iload_n 1, 0, 0, 0, 0), (.bipush 10, 0, 0, 0, (nI 10))] (pc' := 15) (by decide +kernel) (lv' := [some (.ref 0), some (.int n), some (.int t)]) (st' := [.int (nI 10), .int n, .int (nI 48), .ref 113]) (I' := I) (J' := J) rfl ?_
    refine EV_idiv C (by decide +kernel) (by decide) ?_
    refine EV_blk (own := 11) C rfl [(.iadd, 0, 0, 0, 0)] (pc' := 17) (by decide +kernel) (lv' := [some (.ref 0), some (.int n), some (.int t)]) (st' := [.int ((nI 48) + (n / (nI 10))), .ref 113]) (I' := I) (J' := J) rfl ?_
    refine EV_cV (own := 11) (idx := 272) (μ' := mX0_append) (b := 113) (cb := 0) (av := [.int ((nI 48) + (n / (nI 10)))]) (rest := []) C hR rfl (Or.inl ⟨794, by decide⟩) kX0_append sX0_append (c_append113 g rest I J ((nI 48) + (n / (nI 10))) hI.1) rfl rfl (by decide +kernel) rfl (by decide) (Nat.le_of_ble_eq_true rfl) rfl ⟨Nat.zero_le _, Nat.zero_le _⟩ ?_
    refine EV_blk (own := 11) C rfl [(.iload_n 1, 0, 0, 0, 0), (.iconst 1, 0, 0, 0, (nI 1))] (pc' := 22) (by decide +kernel) (lv' := [some (.ref 0), some (.int n), some (.int t)]) (st' := [.int (nI 1), .int n]) (I' := (I_append113 I ((nI 48) + (n / (nI 10))))) (J' := J) rfl ?_
    refine EV_icmp_le (off := 17) (tgt := 39) C (by decide +kernel) (by decide) (fun h3 => ?_) (fun h3 => ?_)
    · skip
      refine EV_blk (own := 11) C rfl [(.aload_n 0, 0, 0, 0, 0), (.getfield 51, 11, 6, 374, 0), (.bipush 97, 0, 0, 0, (nI 97)), (.iload_n 2, 0, 0, 0, 0), (.iadd, 0, 0, 0, 0)] (pc' := 47) (by decide +kernel) (lv' := [some (.ref 0), some (.int n), some (.int t)]) (st' := [.int ((nI 97) + t), .ref 113]) (I' := (I_append113 I ((nI 48) + (n / (nI 10))))) (J' := J) rfl ?_
      refine EV_cV (own := 11) (idx := 272) (μ' := mX0_append) (b := 113) (cb := 0) (av := [.int ((nI 97) + t)]) (rest := []) C hR rfl (Or.inl ⟨794, by decide⟩) kX0_append sX0_append (c_append113 g rest (I_append113 I ((nI 48) + (n / (nI 10)))) J ((nI 97) + t) (tq_out_app hI).1) rfl rfl (by decide +kernel) rfl (by decide) (Nat.le_of_ble_eq_true rfl) rfl ⟨Nat.zero_le _, Nat.zero_le _⟩ ?_
      exact EV_vret C hZ rfl (by decide +kernel) (Nat.le_refl _) (Nat.le_refl _) ⟨rfl, rfl, rfl, by simp only [I_X11_writeItem, if_neg h1, if_pos h3], rfl⟩
    · skip
      refine EV_blk (own := 11) C rfl [(.aload_n 0, 0, 0, 0, 0), (.getfield 51, 11, 6, 374, 0), (.bipush 48, 0, 0, 0, (nI 48)), (.iload_n 1, 0, 0, 0, 0), (.bipush 10, 0, 0, 0, (nI 10))] (pc' := 34) (by decide +kernel) (lv' := [some (.ref 0), some (.int n), some (.int t)]) (st' := [.int (nI 10), .int n, .int (nI 48), .ref 113]) (I' := (I_append113 I ((nI 48) + (n / (nI 10))))) (J' := J) rfl ?_
      refine EV_irem C (by decide +kernel) (by decide) ?_
      refine EV_blk (own := 11) C rfl [(.iadd, 0, 0, 0, 0)] (pc' := 36) (by decide +kernel) (lv' := [some (.ref 0), some (.int n), some (.int t)]) (st' := [.int ((nI 48) + (tq_rem n (nI 10))), .ref 113]) (I' := (I_append113 I ((nI 48) + (n / (nI 10))))) (J' := J) rfl ?_
      refine EV_cV (own := 11) (idx := 272) (μ' := mX0_append) (b := 113) (cb := 0) (av := [.int ((nI 48) + (tq_rem n (nI 10)))]) (rest := []) C hR rfl (Or.inl ⟨794, by decide⟩) kX0_append sX0_append (c_append113 g rest (I_append113 I ((nI 48) + (n / (nI 10)))) J ((nI 48) + (tq_rem n (nI 10))) (tq_out_app hI).1) rfl rfl (by decide +kernel) rfl (by decide) (Nat.le_of_ble_eq_true rfl) rfl ⟨Nat.zero_le _, Nat.zero_le _⟩ ?_
      refine EV_blk (own := 11) C rfl [(.aload_n 0, 0, 0, 0, 0), (.getfield 51, 11, 6, 374, 0), (.bipush 97, 0, 0, 0, (nI 97)), (.iload_n 2, 0, 0, 0, 0), (.iadd, 0, 0, 0, 0)] (pc' := 47) (by decide +kernel) (lv' := [some (.ref 0), some (.int n), some (.int t)]) (st' := [.int ((nI 97) + t), .ref 113]) (I' := (I_append113 (I_append113 I ((nI 48) + (n / (nI 10)))) ((nI 48) + (tq_rem n (nI 10))))) (J' := J) rfl ?_
      refine EV_cV (own := 11) (idx := 272) (μ' := mX0_append) (b := 113) (cb := 0) (av := [.int ((nI 97) + t)]) (rest := []) C hR rfl (Or.inl ⟨794, by decide⟩) kX0_append sX0_append (c_append113 g rest (I_append113 (I_append113 I ((nI 48) + (n / (nI 10)))) ((nI 48) + (tq_rem n (nI 10)))) J ((nI 97) + t) (tq_out_app (tq_out_app hI)).1) rfl rfl (by decide +kernel) rfl (by decide) (Nat.le_of_ble_eq_true rfl) rfl ⟨Nat.zero_le _, Nat.zero_le _⟩ ?_
      exact EV_vret C hZ rfl (by decide +kernel) (Nat.le_refl _) (Nat.le_refl _) ⟨rfl, rfl, rfl, by simp only [I_X11_writeItem, if_neg h1, if_neg h3], rfl⟩
theorem fr_X11_writeItem (I : tq_I) (n t : Int32) {cz : Nat} (hc : cz ≠ 113 ∧ cz ≠ 114) (jz : Nat) : I_X11_writeItem I n t cz jz = I cz jz := by
  obtain ⟨hc0, hc1⟩ := hc
  simp only [I_X11_writeItem]
  (repeat' split) <;> simp (disch := first | assumption | (simp only [ne_eq] at *; simp [*])) [tq_u, tq_cp, hc0, hc1, fr_tb1, fr_tb2, fr_X8_touchBlock, fr_X8_touchAll, fr_X8_changeCorner, fr_X8_changePath, fr_cb1, fr_cb2, fr_X8_changeBlock, fr_wipe1, fr_X1_wipe, fr_sm1, fr_sm2, fr_X8_startMap, fr_X6_place, fr_mt1, fr_mt2, fr_X6_moveTo, fr_ch2, fr_X10_choose, fr_X1_take, fr_fgt1, fr_X5_forget, fr_X5_meet, fr_gat1, fr_X5_gather, fr_dl1, fr_dl2, fr_X7_drawLayers, fr_dp1, fr_X7_drawPieces, fr_dr1, fr_X7_draw, fr_X9_add, fr_ac1, fr_X9_addCell, fr_tk0, fr_tk1, fr_tk2, fr_X9_take, fr_append111, fr_append113, fr_X4_acceptRowEnd, fr_X4_acceptNumber, fr_al1, fr_X4_acceptLetter, fr_X4_accept, fr_X11_touchAllIf, fr_X11_staleAt, fr_st1, fr_st2]
theorem tq_out_item {I : tq_I} {n t : Int32} (h : tq_outP I) : tq_outP (I_X11_writeItem I n t) := by
  unfold I_X11_writeItem
  split
  · split
    · exact tq_out_app h
    · exact tq_out_app (tq_out_app h)
  · split
    · exact tq_out_app (tq_out_app h)
    · exact tq_out_app (tq_out_app (tq_out_app h))
def f_wr1 (y w : Nat) (i : Nat) (a : Int32 × tq_I) : Int32 × tq_I := (if (nI i) = (a.2 2 0) then ((nI 0), (I_X11_writeItem a.2 (a.1 + (nI 1)) (a.2 3 (y * 11 + i)))) else (if (a.2 3 (y * 11 + (i + 1))) = (a.2 3 (y * 11 + i)) then ((a.1 + (nI 1)), a.2) else ((nI 0), (I_X11_writeItem a.2 (a.1 + (nI 1)) (a.2 3 (y * 11 + i))))))
set_option maxRecDepth 20000 in
theorem lp_wr1 {g : tq_G} {rest : List tq_S} {x0 : tq_X} (C : tq_C g mX11_writeRow x0) (hR : tq_ht x0 2 0 0) (J : Int64) (y w : Nat) (hy : y ≤ 10) (hw10 : w ≤ 10) : ∀ (n i : Nat) (a : Int32 × tq_I), i + n = w + 1 → (a.2 2 0 = nI w ∧ tq_outP a.2) → EV g mX11_writeRow x0 0 0 83 [some (.ref 0), some (.int (nI y)), some (.int ((tq_it (f_wr1 y w) n i a).1)), some (.int (nI (i + n))), none] [] (tq_SC ++ rest) tq_RR ((tq_it (f_wr1 y w) n i a).2) J → EV g mX11_writeRow x0 0 0 4 [some (.ref 0), some (.int (nI y)), some (.int a.1), some (.int (nI i)), none] [] (tq_SC ++ rest) tq_RR a.2 J := by
  intro n
  induction n with
  | zero =>
    intro i a hi hI kk
    rw [Nat.add_zero] at kk
    refine EV_blk (own := 11) C rfl [(.iload_n 3, 0, 0, 0, 0), (.aload_n 0, 0, 0, 0, 0), (.getfield 12, 11, 0, 368, 0), (.getfield 77, 8, 0, 193, 0), (.getfield 81, 3, 0, 98, 0)] (pc' := 15) (by decide +kernel) (lv' := [some (.ref 0), some (.int (nI y)), some (.int a.1), some (.int (nI i)), none]) (st' := [.int (a.2 2 0), .int (nI i)]) (I' := a.2) (J' := J) rfl ?_
    refine EV_icmp_gt (off := 68) (tgt := 83) C (by decide +kernel) (by decide) (fun h1 => ?_) (fun h1 => ?_)
    · skip
      exact kk
    · skip
      exact absurd h1 (by simp (disch := omega) only [Int32.lt_iff_toInt_lt, Int32.le_iff_toInt_le, Int32.toInt_zero, nI_toInt, tq_m1, hI.1]; omega)
  | succ n ih =>
    intro i a hi hI kk
    rw [show i + (n + 1) = (i + 1) + n by omega] at kk
    refine EV_blk (own := 11) C rfl [(.iload_n 3, 0, 0, 0, 0), (.aload_n 0, 0, 0, 0, 0), (.getfield 12, 11, 0, 368, 0), (.getfield 77, 8, 0, 193, 0), (.getfield 81, 3, 0, 98, 0)] (pc' := 15) (by decide +kernel) (lv' := [some (.ref 0), some (.int (nI y)), some (.int a.1), some (.int (nI i)), none]) (st' := [.int (a.2 2 0), .int (nI i)]) (I' := a.2) (J' := J) rfl ?_
    refine EV_icmp_gt (off := 68) (tgt := 83) C (by decide +kernel) (by decide) (fun h1 => ?_) (fun h1 => ?_)
    · skip
      exact absurd h1 (by simp (disch := omega) only [Int32.lt_iff_toInt_lt, Int32.le_iff_toInt_le, Int32.toInt_zero, nI_toInt, tq_m1, hI.1]; omega)
    · skip
      refine EV_blk (own := 11) C rfl [(.aload_n 0, 0, 0, 0, 0), (.getfield 12, 11, 0, 368, 0), (.getfield 77, 8, 0, 193, 0), (.iload_n 3, 0, 0, 0, 0), (.iload_n 1, 0, 0, 0, 0)] (pc' := 27) (by decide +kernel) (lv' := [some (.ref 0), some (.int (nI y)), some (.int a.1), some (.int (nI i)), none]) (st' := [.int (nI y), .int (nI i), .ref 2]) (I' := a.2) (J' := J) rfl ?_
      refine EV_cV (own := 11) (idx := 98) (μ' := mX3_terrainAt) (b := 2) (cb := 3) (av := [.int (nI i), .int (nI y)]) (rest := []) C hR rfl (Or.inl ⟨454, by decide⟩) kX3_terrainAt sX3_terrainAt (c_X3_terrainAt g rest a.2 J i y (by omega) (by omega)) rfl rfl (by decide +kernel) rfl (by decide) (Nat.le_of_ble_eq_true rfl) rfl ⟨Nat.zero_le _, Nat.zero_le _⟩ ?_
      refine EV_blk (own := 11) C rfl [(.istore 4, 0, 0, 0, 0), (.iinc 2 1, 0, 0, 0, (nI 1)), (.iload_n 3, 0, 0, 0, 0), (.aload_n 0, 0, 0, 0, 0), (.getfield 12, 11, 0, 368, 0), (.getfield 77, 8, 0, 193, 0), (.getfield 81, 3, 0, 98, 0)] (pc' := 46) (by decide +kernel) (lv' := [some (.ref 0), some (.int (nI y)), some (.int (a.1 + (nI 1))), some (.int (nI i)), some (.int (a.2 3 (y * 11 + i)))]) (st' := [.int (a.2 2 0), .int (nI i)]) (I' := a.2) (J' := J) rfl ?_
      refine EV_icmp_eq (off := 22) (tgt := 68) C (by decide +kernel) (by decide) (fun h2 => ?_) (fun h2 => ?_)
      · skip
        refine EV_blk (own := 11) C rfl [(.aload_n 0, 0, 0, 0, 0), (.iload_n 2, 0, 0, 0, 0), (.iload 4, 0, 0, 0, 0)] (pc' := 72) (by decide +kernel) (lv' := [some (.ref 0), some (.int (nI y)), some (.int (a.1 + (nI 1))), some (.int (nI i)), some (.int (a.2 3 (y * 11 + i)))]) (st' := [.int (a.2 3 (y * 11 + i)), .int (a.1 + (nI 1)), .ref 0]) (I' := a.2) (J' := J) rfl ?_
        refine EV_cV (own := 11) (idx := 325) (μ' := mX11_writeItem) (b := 0) (cb := 11) (av := [.int (a.1 + (nI 1)), .int (a.2 3 (y * 11 + i))]) (rest := []) C hR rfl (Or.inl ⟨850, by decide⟩) kX11_writeItem sX11_writeItem (c_X11_writeItem g rest a.2 J (a.1 + (nI 1)) (a.2 3 (y * 11 + i)) hI.2) rfl rfl (by decide +kernel) rfl (by decide) (Nat.le_of_ble_eq_true rfl) rfl ⟨Nat.zero_le _, Nat.zero_le _⟩ ?_
        refine EV_blk (own := 11) C rfl [(.iconst 0, 0, 0, 0, (nI 0)), (.istore_n 2, 0, 0, 0, 0), (.iinc 3 1, 0, 0, 0, (nI 1)), (.goto (-76), 0, 0, 0, 0)] (pc' := 4) (by decide +kernel) (lv' := [some (.ref 0), some (.int (nI y)), some (.int (nI 0)), some (.int ((nI i) + (nI 1))), some (.int (a.2 3 (y * 11 + i)))]) (st' := []) (I' := (I_X11_writeItem a.2 (a.1 + (nI 1)) (a.2 3 (y * 11 + i)))) (J' := J) rfl ?_
        refine EV_fg (lv' := [some (.ref 0), some (.int (nI y)), some (.int (nI 0)), some (.int ((nI i) + (nI 1))), none]) ⟨rfl, rfl, rfl, rfl, trivial⟩ ?_
        rw [show ((nI i) + (nI 1)) = (nI (i + 1)) from by simp (disch := omega) only [nI_add, tq_mul] <;> exact congrArg nI (by omega)]
        rw [tq_its, show (f_wr1 y w) i a = ((nI 0), (I_X11_writeItem a.2 (a.1 + (nI 1)) (a.2 3 (y * 11 + i)))) from by simp only [f_wr1, if_neg h1, if_pos h2]] at kk
        have ihx := ih (i + 1) ((nI 0), (I_X11_writeItem a.2 (a.1 + (nI 1)) (a.2 3 (y * 11 + i)))) (by omega)
        dsimp only at ihx
        exact ihx (by first | exact hI | exact ⟨by rw [fr_X11_writeItem _ _ _ (by decide)]; exact hI.1, tq_out_item hI.2⟩) kk
      · skip
        have hne : i ≠ w := fun e => h2 (by rw [e, hI.1])
        refine EV_blk (own := 11) C rfl [(.aload_n 0, 0, 0, 0, 0), (.getfield 12, 11, 0, 368, 0), (.getfield 77, 8, 0, 193, 0), (.iload_n 3, 0, 0, 0, 0), (.iconst 1, 0, 0, 0, (nI 1)), (.iadd, 0, 0, 0, 0), (.iload_n 1, 0, 0, 0, 0)] (pc' := 60) (by decide +kernel) (lv' := [some (.ref 0), some (.int (nI y)), some (.int (a.1 + (nI 1))), some (.int (nI i)), some (.int (a.2 3 (y * 11 + i)))]) (st' := [.int (nI y), .int ((nI i) + (nI 1)), .ref 2]) (I' := a.2) (J' := J) rfl ?_
        rw [show ((nI i) + (nI 1)) = (nI (i + 1)) from by simp (disch := omega) only [nI_add, tq_mul, tq_rem_nI, tq_div_nI, tq_sub_nI]]
        refine EV_cV (own := 11) (idx := 98) (μ' := mX3_terrainAt) (b := 2) (cb := 3) (av := [.int (nI (i + 1)), .int (nI y)]) (rest := []) C hR rfl (Or.inl ⟨454, by decide⟩) kX3_terrainAt sX3_terrainAt (c_X3_terrainAt g rest a.2 J (i + 1) y (by omega) (by omega)) rfl rfl (by decide +kernel) rfl (by decide) (Nat.le_of_ble_eq_true rfl) rfl ⟨Nat.zero_le _, Nat.zero_le _⟩ ?_
        refine EV_blk (own := 11) C rfl [(.iload 4, 0, 0, 0, 0)] (pc' := 65) (by decide +kernel) (lv' := [some (.ref 0), some (.int (nI y)), some (.int (a.1 + (nI 1))), some (.int (nI i)), some (.int (a.2 3 (y * 11 + i)))]) (st' := [.int (a.2 3 (y * 11 + i)), .int (a.2 3 (y * 11 + (i + 1)))]) (I' := a.2) (J' := J) rfl ?_
        refine EV_icmp_eq (off := 12) (tgt := 77) C (by decide +kernel) (by decide) (fun h3 => ?_) (fun h3 => ?_)
        · skip
          refine EV_blk (own := 11) C rfl [(.iinc 3 1, 0, 0, 0, (nI 1)), (.goto (-76), 0, 0, 0, 0)] (pc' := 4) (by decide +kernel) (lv' := [some (.ref 0), some (.int (nI y)), some (.int (a.1 + (nI 1))), some (.int ((nI i) + (nI 1))), some (.int (a.2 3 (y * 11 + i)))]) (st' := []) (I' := a.2) (J' := J) rfl ?_
          refine EV_fg (lv' := [some (.ref 0), some (.int (nI y)), some (.int (a.1 + (nI 1))), some (.int ((nI i) + (nI 1))), none]) ⟨rfl, rfl, rfl, rfl, trivial⟩ ?_
          rw [show ((nI i) + (nI 1)) = (nI (i + 1)) from by simp (disch := omega) only [nI_add, tq_mul] <;> exact congrArg nI (by omega)]
          rw [tq_its, show (f_wr1 y w) i a = ((a.1 + (nI 1)), a.2) from by simp only [f_wr1, if_neg h1, if_neg h2, if_pos h3]] at kk
          have ihx := ih (i + 1) ((a.1 + (nI 1)), a.2) (by omega)
          dsimp only at ihx
          exact ihx (by first | exact hI | exact ⟨by rw [fr_X11_writeItem _ _ _ (by decide)]; exact hI.1, tq_out_item hI.2⟩) kk
        · skip
          refine EV_blk (own := 11) C rfl [(.aload_n 0, 0, 0, 0, 0), (.iload_n 2, 0, 0, 0, 0), (.iload 4, 0, 0, 0, 0)] (pc' := 72) (by decide +kernel) (lv' := [some (.ref 0), some (.int (nI y)), some (.int (a.1 + (nI 1))), some (.int (nI i)), some (.int (a.2 3 (y * 11 + i)))]) (st' := [.int (a.2 3 (y * 11 + i)), .int (a.1 + (nI 1)), .ref 0]) (I' := a.2) (J' := J) rfl ?_
          refine EV_cV (own := 11) (idx := 325) (μ' := mX11_writeItem) (b := 0) (cb := 11) (av := [.int (a.1 + (nI 1)), .int (a.2 3 (y * 11 + i))]) (rest := []) C hR rfl (Or.inl ⟨850, by decide⟩) kX11_writeItem sX11_writeItem (c_X11_writeItem g rest a.2 J (a.1 + (nI 1)) (a.2 3 (y * 11 + i)) hI.2) rfl rfl (by decide +kernel) rfl (by decide) (Nat.le_of_ble_eq_true rfl) rfl ⟨Nat.zero_le _, Nat.zero_le _⟩ ?_
          refine EV_blk (own := 11) C rfl [(.iconst 0, 0, 0, 0, (nI 0)), (.istore_n 2, 0, 0, 0, 0), (.iinc 3 1, 0, 0, 0, (nI 1)), (.goto (-76), 0, 0, 0, 0)] (pc' := 4) (by decide +kernel) (lv' := [some (.ref 0), some (.int (nI y)), some (.int (nI 0)), some (.int ((nI i) + (nI 1))), some (.int (a.2 3 (y * 11 + i)))]) (st' := []) (I' := (I_X11_writeItem a.2 (a.1 + (nI 1)) (a.2 3 (y * 11 + i)))) (J' := J) rfl ?_
          refine EV_fg (lv' := [some (.ref 0), some (.int (nI y)), some (.int (nI 0)), some (.int ((nI i) + (nI 1))), none]) ⟨rfl, rfl, rfl, rfl, trivial⟩ ?_
          rw [show ((nI i) + (nI 1)) = (nI (i + 1)) from by simp (disch := omega) only [nI_add, tq_mul] <;> exact congrArg nI (by omega)]
          rw [tq_its, show (f_wr1 y w) i a = ((nI 0), (I_X11_writeItem a.2 (a.1 + (nI 1)) (a.2 3 (y * 11 + i)))) from by simp only [f_wr1, if_neg h1, if_neg h2, if_neg h3]] at kk
          have ihx := ih (i + 1) ((nI 0), (I_X11_writeItem a.2 (a.1 + (nI 1)) (a.2 3 (y * 11 + i)))) (by omega)
          dsimp only at ihx
          exact ihx (by first | exact hI | exact ⟨by rw [fr_X11_writeItem _ _ _ (by decide)]; exact hI.1, tq_out_item hI.2⟩) kk
theorem fr_wr1 (y w : Nat) {cz : Nat} (hc : cz ≠ 113 ∧ cz ≠ 114) (n i : Nat) (a : Int32 × tq_I) (jz : Nat) : (tq_it (f_wr1 y w) n i a).2 cz jz = a.2 cz jz := by
  obtain ⟨hc0, hc1⟩ := hc
  refine tq_itF2 (fun i a j => ?_) n i a jz
  simp only [f_wr1]
  (repeat' split) <;> simp (disch := first | assumption | (simp only [ne_eq] at *; simp [*])) [tq_u, tq_cp, hc0, hc1, fr_tb1, fr_tb2, fr_X8_touchBlock, fr_X8_touchAll, fr_X8_changeCorner, fr_X8_changePath, fr_cb1, fr_cb2, fr_X8_changeBlock, fr_wipe1, fr_X1_wipe, fr_sm1, fr_sm2, fr_X8_startMap, fr_X6_place, fr_mt1, fr_mt2, fr_X6_moveTo, fr_ch2, fr_X10_choose, fr_X1_take, fr_fgt1, fr_X5_forget, fr_X5_meet, fr_gat1, fr_X5_gather, fr_dl1, fr_dl2, fr_X7_drawLayers, fr_dp1, fr_X7_drawPieces, fr_dr1, fr_X7_draw, fr_X9_add, fr_ac1, fr_X9_addCell, fr_tk0, fr_tk1, fr_tk2, fr_X9_take, fr_append111, fr_append113, fr_X4_acceptRowEnd, fr_X4_acceptNumber, fr_al1, fr_X4_acceptLetter, fr_X4_accept, fr_X11_touchAllIf, fr_X11_staleAt, fr_st1, fr_st2, fr_X11_writeItem]
theorem tq_wrP {y w : Nat} (n i : Nat) (a : Int32 × tq_I) (h : a.2 2 0 = nI w ∧ tq_outP a.2) : (tq_it (f_wr1 y w) n i a).2 2 0 = nI w ∧ tq_outP (tq_it (f_wr1 y w) n i a).2 := by
  refine tq_itP (fun b => b.2 2 0 = nI w ∧ tq_outP b.2) (fun i b hb => ?_) n i a h
  simp only [f_wr1]
  (repeat' split) <;> (try dsimp only) <;> first | exact hb | exact ⟨by rw [fr_X11_writeItem _ _ _ (by decide)]; exact hb.1, tq_out_item hb.2⟩
def I_X11_writeRow (I : tq_I) (y w : Nat) : tq_I := (tq_it (f_wr1 y w) (w + 1) 0 ((nI 0), I)).2
set_option maxRecDepth 20000 in
theorem c_X11_writeRow (g : tq_G) (rest : List tq_S) (I : tq_I) (J : Int64) (y w : Nat) (hy : y ≤ 10) (hw10 : w ≤ 10) (hI : I 2 0 = nI w ∧ tq_outP I) : CT g mX11_writeRow 2 0 0 [.ref 0, .int (nI y)] (tq_SC ++ rest) tq_RR I J (tq_ret (tq_SC ++ rest) tq_RR none (I_X11_writeRow I y w) J) := by
  refine CT.ret kX11_writeRow (Nat.le_of_ble_eq_true rfl) (fun x0 C hR hZ => ?_)
  refine EV_en (lv' := [some (.ref 0), some (.int (nI y)), none, none, none]) 3 rfl ?_
  refine EV_blk (own := 11) C rfl [(.iconst 0, 0, 0, 0, (nI 0)), (.istore_n 2, 0, 0, 0, 0), (.iconst 0, 0, 0, 0, (nI 0)), (.istore_n 3, 0, 0, 0, 0)] (pc' := 4) (by decide +kernel) (lv' := [some (.ref 0), some (.int (nI y)), some (.int (nI 0)), some (.int (nI 0)), none]) (st' := []) (I' := I) (J' := J) rfl ?_
  refine lp_wr1 C hR J y w hy hw10 (w + 1) 0 ((nI 0), I) (by omega) hI ?_
  exact EV_vret C hZ rfl (by decide +kernel) (Nat.le_refl _) (Nat.le_refl _) ⟨rfl, rfl, rfl, by simp only [I_X11_writeRow], rfl⟩
theorem fr_X11_writeRow (I : tq_I) (y w : Nat) {cz : Nat} (hc : cz ≠ 113 ∧ cz ≠ 114) (jz : Nat) : I_X11_writeRow I y w cz jz = I cz jz := by
  obtain ⟨hc0, hc1⟩ := hc
  simp only [I_X11_writeRow]
  (repeat' split) <;> simp (disch := first | assumption | (simp only [ne_eq] at *; simp [*])) [tq_u, tq_cp, hc0, hc1, fr_tb1, fr_tb2, fr_X8_touchBlock, fr_X8_touchAll, fr_X8_changeCorner, fr_X8_changePath, fr_cb1, fr_cb2, fr_X8_changeBlock, fr_wipe1, fr_X1_wipe, fr_sm1, fr_sm2, fr_X8_startMap, fr_X6_place, fr_mt1, fr_mt2, fr_X6_moveTo, fr_ch2, fr_X10_choose, fr_X1_take, fr_fgt1, fr_X5_forget, fr_X5_meet, fr_gat1, fr_X5_gather, fr_dl1, fr_dl2, fr_X7_drawLayers, fr_dp1, fr_X7_drawPieces, fr_dr1, fr_X7_draw, fr_X9_add, fr_ac1, fr_X9_addCell, fr_tk0, fr_tk1, fr_tk2, fr_X9_take, fr_append111, fr_append113, fr_X4_acceptRowEnd, fr_X4_acceptNumber, fr_al1, fr_X4_acceptLetter, fr_X4_accept, fr_X11_touchAllIf, fr_X11_staleAt, fr_st1, fr_st2, fr_X11_writeItem, fr_wr1]
theorem tq_wrowP {I : tq_I} {y w : Nat} (h : I 2 0 = nI w ∧ tq_outP I) : I_X11_writeRow I y w 2 0 = nI w ∧ tq_outP (I_X11_writeRow I y w) := tq_wrP _ _ _ h
theorem tq_wq {a : tq_I} {y w h : Nat} (h0 : a 2 0 = nI w ∧ a 2 1 = nI h ∧ tq_outP a) : I_X11_writeRow a y w 2 0 = nI w ∧ I_X11_writeRow a y w 2 1 = nI h ∧ tq_outP (I_X11_writeRow a y w) := ⟨(tq_wrowP ⟨h0.1, h0.2.2⟩).1, by rw [fr_X11_writeRow _ _ _ (by decide)]; exact h0.2.1, (tq_wrowP ⟨h0.1, h0.2.2⟩).2⟩
theorem tq_wqa {a : tq_I} {w h : Nat} {c : Int32} (h0 : a 2 0 = nI w ∧ a 2 1 = nI h ∧ tq_outP a) : I_append113 a c 2 0 = nI w ∧ I_append113 a c 2 1 = nI h ∧ tq_outP (I_append113 a c) := ⟨by rw [fr_append113 _ _ (by decide)]; exact h0.1, by rw [fr_append113 _ _ (by decide)]; exact h0.2.1, tq_out_app h0.2.2⟩
def f_wr2 (w h : Nat) (i : Nat) (a : tq_I) : tq_I := (if (nI i) ≤ 0 then (I_X11_writeRow a i w) else (I_X11_writeRow (I_append113 a (nI 47)) i w))
set_option maxRecDepth 20000 in
theorem lp_wr2 {g : tq_G} {rest : List tq_S} {x0 : tq_X} (C : tq_C g mX11_write x0) (hR : tq_ht x0 3 0 0) (J : Int64) (w h : Nat) (hw10 : w ≤ 10) (hh10 : h ≤ 10) : ∀ (n i : Nat) (a : tq_I), i + n = h + 1 → (a 2 0 = nI w ∧ a 2 1 = nI h ∧ tq_outP a) → EV g mX11_write x0 0 0 48 [some (.ref 0), some (.int (nI (i + n)))] [] (tq_SC ++ rest) tq_RR (tq_it (f_wr2 w h) n i a) J → EV g mX11_write x0 0 0 10 [some (.ref 0), some (.int (nI i))] [] (tq_SC ++ rest) tq_RR a J := by
  intro n
  induction n with
  | zero =>
    intro i a hi hI kk
    rw [Nat.add_zero] at kk
    refine EV_blk (own := 11) C rfl [(.iload_n 1, 0, 0, 0, 0), (.aload_n 0, 0, 0, 0, 0), (.getfield 12, 11, 0, 368, 0), (.getfield 77, 8, 0, 193, 0), (.getfield 87, 3, 1, 102, 0)] (pc' := 21) (by decide +kernel) (lv' := [some (.ref 0), some (.int (nI i))]) (st' := [.int (a 2 1), .int (nI i)]) (I' := a) (J' := J) rfl ?_
    refine EV_icmp_gt (off := 27) (tgt := 48) C (by decide +kernel) (by decide) (fun h1 => ?_) (fun h1 => ?_)
    · skip
      exact kk
    · skip
      exact absurd h1 (by simp (disch := omega) only [Int32.lt_iff_toInt_lt, Int32.le_iff_toInt_le, Int32.toInt_zero, nI_toInt, tq_m1, hI.2.1]; omega)
  | succ n ih =>
    intro i a hi hI kk
    rw [show i + (n + 1) = (i + 1) + n by omega] at kk
    refine EV_blk (own := 11) C rfl [(.iload_n 1, 0, 0, 0, 0), (.aload_n 0, 0, 0, 0, 0), (.getfield 12, 11, 0, 368, 0), (.getfield 77, 8, 0, 193, 0), (.getfield 87, 3, 1, 102, 0)] (pc' := 21) (by decide +kernel) (lv' := [some (.ref 0), some (.int (nI i))]) (st' := [.int (a 2 1), .int (nI i)]) (I' := a) (J' := J) rfl ?_
    refine EV_icmp_gt (off := 27) (tgt := 48) C (by decide +kernel) (by decide) (fun h1 => ?_) (fun h1 => ?_)
    · skip
      exact absurd h1 (by simp (disch := omega) only [Int32.lt_iff_toInt_lt, Int32.le_iff_toInt_le, Int32.toInt_zero, nI_toInt, tq_m1, hI.2.1]; omega)
    · skip
      refine EV_blk (own := 11) C rfl [(.iload_n 1, 0, 0, 0, 0)] (pc' := 25) (by decide +kernel) (lv' := [some (.ref 0), some (.int (nI i))]) (st' := [.int (nI i)]) (I' := a) (J' := J) rfl ?_
      refine EV_if_le (off := 12) (tgt := 37) C (by decide +kernel) (by decide) (fun h2 => ?_) (fun h2 => ?_)
      · skip
        refine EV_blk (own := 11) C rfl [(.aload_n 0, 0, 0, 0, 0), (.iload_n 1, 0, 0, 0, 0)] (pc' := 39) (by decide +kernel) (lv' := [some (.ref 0), some (.int (nI i))]) (st' := [.int (nI i), .ref 0]) (I' := a) (J' := J) rfl ?_
        refine EV_cV (own := 11) (idx := 296) (μ' := mX11_writeRow) (b := 0) (cb := 11) (av := [.int (nI i)]) (rest := []) C hR rfl (Or.inl ⟨846, by decide⟩) kX11_writeRow sX11_writeRow (c_X11_writeRow g rest a J i w (by omega) hw10 ⟨hI.1, hI.2.2⟩) rfl rfl (by decide +kernel) rfl (by decide) (Nat.le_of_ble_eq_true rfl) rfl ⟨Nat.zero_le _, Nat.zero_le _⟩ ?_
        refine EV_blk (own := 11) C rfl [(.iinc 1 1, 0, 0, 0, (nI 1)), (.goto (-35), 0, 0, 0, 0)] (pc' := 10) (by decide +kernel) (lv' := [some (.ref 0), some (.int ((nI i) + (nI 1)))]) (st' := []) (I' := (I_X11_writeRow a i w)) (J' := J) rfl ?_
        rw [show ((nI i) + (nI 1)) = (nI (i + 1)) from by simp (disch := omega) only [nI_add, tq_mul] <;> exact congrArg nI (by omega)]
        rw [tq_its, show (f_wr2 w h) i a = (I_X11_writeRow a i w) from by simp only [f_wr2, if_neg h1, if_pos h2]] at kk
        exact ih (i + 1) (I_X11_writeRow a i w) (by omega) (by first | exact tq_wq hI | exact tq_wq (tq_wqa hI)) kk
      · skip
        refine EV_blk (own := 11) C rfl [(.aload_n 0, 0, 0, 0, 0), (.getfield 51, 11, 6, 374, 0), (.bipush 47, 0, 0, 0, (nI 47))] (pc' := 34) (by decide +kernel) (lv' := [some (.ref 0), some (.int (nI i))]) (st' := [.int (nI 47), .ref 113]) (I' := a) (J' := J) rfl ?_
        refine EV_cV (own := 11) (idx := 272) (μ' := mX0_append) (b := 113) (cb := 0) (av := [.int (nI 47)]) (rest := []) C hR rfl (Or.inl ⟨794, by decide⟩) kX0_append sX0_append (c_append113 g rest a J (nI 47) hI.2.2.1) rfl rfl (by decide +kernel) rfl (by decide) (Nat.le_of_ble_eq_true rfl) rfl ⟨Nat.zero_le _, Nat.zero_le _⟩ ?_
        refine EV_blk (own := 11) C rfl [(.aload_n 0, 0, 0, 0, 0), (.iload_n 1, 0, 0, 0, 0)] (pc' := 39) (by decide +kernel) (lv' := [some (.ref 0), some (.int (nI i))]) (st' := [.int (nI i), .ref 0]) (I' := (I_append113 a (nI 47))) (J' := J) rfl ?_
        refine EV_cV (own := 11) (idx := 296) (μ' := mX11_writeRow) (b := 0) (cb := 11) (av := [.int (nI i)]) (rest := []) C hR rfl (Or.inl ⟨846, by decide⟩) kX11_writeRow sX11_writeRow (c_X11_writeRow g rest (I_append113 a (nI 47)) J i w (by omega) hw10 ⟨by rw [fr_append113 _ _ (by decide)]; exact hI.1, tq_out_app hI.2.2⟩) rfl rfl (by decide +kernel) rfl (by decide) (Nat.le_of_ble_eq_true rfl) rfl ⟨Nat.zero_le _, Nat.zero_le _⟩ ?_
        refine EV_blk (own := 11) C rfl [(.iinc 1 1, 0, 0, 0, (nI 1)), (.goto (-35), 0, 0, 0, 0)] (pc' := 10) (by decide +kernel) (lv' := [some (.ref 0), some (.int ((nI i) + (nI 1)))]) (st' := []) (I' := (I_X11_writeRow (I_append113 a (nI 47)) i w)) (J' := J) rfl ?_
        rw [show ((nI i) + (nI 1)) = (nI (i + 1)) from by simp (disch := omega) only [nI_add, tq_mul] <;> exact congrArg nI (by omega)]
        rw [tq_its, show (f_wr2 w h) i a = (I_X11_writeRow (I_append113 a (nI 47)) i w) from by simp only [f_wr2, if_neg h1, if_neg h2]] at kk
        exact ih (i + 1) (I_X11_writeRow (I_append113 a (nI 47)) i w) (by omega) (by first | exact tq_wq hI | exact tq_wq (tq_wqa hI)) kk
theorem fr_wr2 (w h : Nat) {cz : Nat} (hc : cz ≠ 113 ∧ cz ≠ 114) (n i : Nat) (a : tq_I) (jz : Nat) : (tq_it (f_wr2 w h) n i a) cz jz = a cz jz := by
  obtain ⟨hc0, hc1⟩ := hc
  refine tq_itF (fun i a j => ?_) n i a jz
  simp only [f_wr2]
  (repeat' split) <;> simp (disch := first | assumption | (simp only [ne_eq] at *; simp [*])) [tq_u, tq_cp, hc0, hc1, fr_tb1, fr_tb2, fr_X8_touchBlock, fr_X8_touchAll, fr_X8_changeCorner, fr_X8_changePath, fr_cb1, fr_cb2, fr_X8_changeBlock, fr_wipe1, fr_X1_wipe, fr_sm1, fr_sm2, fr_X8_startMap, fr_X6_place, fr_mt1, fr_mt2, fr_X6_moveTo, fr_ch2, fr_X10_choose, fr_X1_take, fr_fgt1, fr_X5_forget, fr_X5_meet, fr_gat1, fr_X5_gather, fr_dl1, fr_dl2, fr_X7_drawLayers, fr_dp1, fr_X7_drawPieces, fr_dr1, fr_X7_draw, fr_X9_add, fr_ac1, fr_X9_addCell, fr_tk0, fr_tk1, fr_tk2, fr_X9_take, fr_append111, fr_append113, fr_X4_acceptRowEnd, fr_X4_acceptNumber, fr_al1, fr_X4_acceptLetter, fr_X4_accept, fr_X11_touchAllIf, fr_X11_staleAt, fr_st1, fr_st2, fr_X11_writeItem, fr_wr1, fr_X11_writeRow]
def r_X11_write (I : tq_I)  (w h o c L : Nat) : Int32 := ((tq_it (f_wr2 w h) (h + 1) 0 (tq_u I 113 1 (nI 0))) 113 1)
def I_X11_write (I : tq_I)  (w h o c L : Nat) : tq_I := (tq_it (f_wr2 w h) (h + 1) 0 (tq_u I 113 1 (nI 0)))
set_option maxRecDepth 20000 in
theorem c_X11_write (g : tq_G) (rest : List tq_S) (I : tq_I) (J : Int64)  (w h o c L : Nat) (k : tq_ok I w h o c L)  : CT g mX11_write 3 0 0 [.ref 0] (tq_SC ++ rest) tq_RR I J (tq_ret (tq_SC ++ rest) tq_RR (some (.int (r_X11_write I w h o c L))) (I_X11_write I w h o c L) J) := by
  refine CT.ret kX11_write (Nat.le_of_ble_eq_true rfl) (fun x0 C hR hZ => ?_)
  refine EV_en (lv' := [some (.ref 0), none]) 1 rfl ?_
  refine EV_blk (own := 11) C rfl [(.aload_n 0, 0, 0, 0, 0), (.getfield 51, 11, 6, 374, 0), (.iconst 0, 0, 0, 0, (nI 0)), (.putfield 269, 0, 1, 314, 0), (.iconst 0, 0, 0, 0, (nI 0)), (.istore_n 1, 0, 0, 0, 0)] (pc' := 10) (by decide +kernel) (lv' := [some (.ref 0), some (.int (nI 0))]) (st' := []) (I' := (tq_u I 113 1 (nI 0))) (J' := J) rfl ?_
  refine lp_wr2 C hR J w h k.w10 k.h10 (h + 1) 0 (tq_u I 113 1 (nI 0)) (by omega) ⟨k.hw, k.hh, by show 0 ≤ (nI 0).toInt ∧ (nI 0).toInt ≤ 150; decide⟩ ?_
  refine EV_blk (own := 11) C rfl [(.aload_n 0, 0, 0, 0, 0), (.getfield 51, 11, 6, 374, 0), (.getfield 269, 0, 1, 314, 0)] (pc' := 55) (by decide +kernel) (lv' := [some (.ref 0), some (.int (nI ((0 + (h + 1)))))]) (st' := [.int ((tq_it (f_wr2 w h) (h + 1) 0 (tq_u I 113 1 (nI 0))) 113 1)]) (I' := (tq_it (f_wr2 w h) (h + 1) 0 (tq_u I 113 1 (nI 0)))) (J' := J) rfl ?_
  exact EV_iret C hZ rfl (by decide +kernel) (Nat.le_refl _) (Nat.le_refl _) ⟨tq_some (by simp only [r_X11_write]), rfl, rfl, by simp only [I_X11_write], rfl⟩
theorem fr_X11_write (I : tq_I)  (w h o c L : Nat) {cz : Nat} (hc : cz ≠ 113 ∧ cz ≠ 114) (jz : Nat) : I_X11_write I w h o c L cz jz = I cz jz := by
  obtain ⟨hc0, hc1⟩ := hc
  simp only [I_X11_write]
  (repeat' split) <;> simp (disch := first | assumption | (simp only [ne_eq] at *; simp [*])) [tq_u, tq_cp, hc0, hc1, fr_tb1, fr_tb2, fr_X8_touchBlock, fr_X8_touchAll, fr_X8_changeCorner, fr_X8_changePath, fr_cb1, fr_cb2, fr_X8_changeBlock, fr_wipe1, fr_X1_wipe, fr_sm1, fr_sm2, fr_X8_startMap, fr_X6_place, fr_mt1, fr_mt2, fr_X6_moveTo, fr_ch2, fr_X10_choose, fr_X1_take, fr_fgt1, fr_X5_forget, fr_X5_meet, fr_gat1, fr_X5_gather, fr_dl1, fr_dl2, fr_X7_drawLayers, fr_dp1, fr_X7_drawPieces, fr_dr1, fr_X7_draw, fr_X9_add, fr_ac1, fr_X9_addCell, fr_tk0, fr_tk1, fr_tk2, fr_X9_take, fr_append111, fr_append113, fr_X4_acceptRowEnd, fr_X4_acceptNumber, fr_al1, fr_X4_acceptLetter, fr_X4_accept, fr_X11_touchAllIf, fr_X11_staleAt, fr_st1, fr_st2, fr_X11_writeItem, fr_wr1, fr_X11_writeRow, fr_wr2]
set_option maxRecDepth 20000 in
theorem c_X11_mix (g : tq_G) (rest : List tq_S) (I : tq_I) (J : Int64) (v : Int64) (q : Int32)  : CT g mX11_mix 0 0 0 [.long v, .int q] (tq_SC ++ rest) tq_RR I J (tq_ret (tq_SC ++ rest) tq_RR (some (.long (((31 : Int64) * v) + (q).toInt64))) I J) := by
  refine CT.ret kX11_mix (Nat.le_of_ble_eq_true rfl) (fun x0 C hR hZ => ?_)
  refine EV_en (lv' := [some (.long v), none, some (.int q)]) 0 rfl ?_
  refine EV_ldc2 (own := 11) (idx := 313) (v := 31) (pl := 866) C rfl (by decide) (by decide +kernel) ?_
  refine EV_blk (own := 11) C rfl [(.lload_n 0, 0, 0, 0, 0), (.lmul, 0, 0, 0, 0), (.iload_n 2, 0, 0, 0, 0), (.i2l, 0, 0, 0, 0), (.ladd, 0, 0, 0, 0)] (pc' := 8) (by decide +kernel) (lv' := [some (.long v), none, some (.int q)]) (st' := [.long (((31 : Int64) * v) + (q).toInt64)]) (I' := I) (J' := J) rfl ?_
  exact EV_lret C hZ rfl (by decide +kernel) (Nat.le_refl _) (Nat.le_refl _) ⟨rfl, rfl, rfl, rfl, rfl⟩
def f_mx1 (I : tq_I) (code : Int32) (bf : Int64) (x y cl i0 : Nat) (i : Nat) (a : Int64) : Int64 := (((31 : Int64) * a) + ((r_X11_propertyOfPiece code (nI i))).toInt64)
set_option maxRecDepth 20000 in
theorem lp_mx1 {g : tq_G} {rest : List tq_S} {x0 : tq_X} (C : tq_C g mX11_mixCell x0) (hR : tq_ht x0 7 0 0) (I : tq_I) (J : Int64) (code : Int32) (bf : Int64) (x y cl i0 : Nat)  : ∀ (n i : Nat) (a : Int64), i + n = 4 → EV g mX11_mixCell x0 0 0 172 [some (.ref 0), some (.long bf), none, some (.int (nI x)), some (.int (nI y)), some (.int (nI cl)), some (.long (tq_it (f_mx1 I code bf x y cl i0) n i a)), none, some (.int (nI i0)), some (.int code), some (.int (nI (i + n)))] [] (tq_SC ++ rest) tq_RR I J → EV g mX11_mixCell x0 0 0 146 [some (.ref 0), some (.long bf), none, some (.int (nI x)), some (.int (nI y)), some (.int (nI cl)), some (.long a), none, some (.int (nI i0)), some (.int code), some (.int (nI i))] [] (tq_SC ++ rest) tq_RR I J := by
  intro n
  induction n with
  | zero =>
    intro i a hi kk
    rw [Nat.add_zero] at kk
    refine EV_blk (own := 11) C rfl [(.iload 10, 0, 0, 0, 0), (.iconst 4, 0, 0, 0, (nI 4))] (pc' := 149) (by decide +kernel) (lv' := [some (.ref 0), some (.long bf), none, some (.int (nI x)), some (.int (nI y)), some (.int (nI cl)), some (.long a), none, some (.int (nI i0)), some (.int code), some (.int (nI i))]) (st' := [.int (nI 4), .int (nI i)]) (I' := I) (J' := J) rfl ?_
    refine EV_icmp_ge (off := 23) (tgt := 172) C (by decide +kernel) (by decide) (fun h1 => ?_) (fun h1 => ?_)
    · skip
      exact kk
    · skip
      exact absurd h1 (by simp (disch := omega) only [Int32.lt_iff_toInt_lt, Int32.le_iff_toInt_le, Int32.toInt_zero, nI_toInt, tq_m1]; omega)
  | succ n ih =>
    intro i a hi kk
    rw [show i + (n + 1) = (i + 1) + n by omega] at kk
    refine EV_blk (own := 11) C rfl [(.iload 10, 0, 0, 0, 0), (.iconst 4, 0, 0, 0, (nI 4))] (pc' := 149) (by decide +kernel) (lv' := [some (.ref 0), some (.long bf), none, some (.int (nI x)), some (.int (nI y)), some (.int (nI cl)), some (.long a), none, some (.int (nI i0)), some (.int code), some (.int (nI i))]) (st' := [.int (nI 4), .int (nI i)]) (I' := I) (J' := J) rfl ?_
    refine EV_icmp_ge (off := 23) (tgt := 172) C (by decide +kernel) (by decide) (fun h1 => ?_) (fun h1 => ?_)
    · skip
      exact absurd h1 (by simp (disch := omega) only [Int32.lt_iff_toInt_lt, Int32.le_iff_toInt_le, Int32.toInt_zero, nI_toInt, tq_m1]; omega)
    · skip
      refine EV_blk (own := 11) C rfl [(.lload 6, 0, 0, 0, 0), (.iload 9, 0, 0, 0, 0), (.iload 10, 0, 0, 0, 0)] (pc' := 158) (by decide +kernel) (lv' := [some (.ref 0), some (.long bf), none, some (.int (nI x)), some (.int (nI y)), some (.int (nI cl)), some (.long a), none, some (.int (nI i0)), some (.int code), some (.int (nI i))]) (st' := [.int (nI i), .int code, .long a]) (I' := I) (J' := J) rfl ?_
      refine EV_cS (own := 11) (idx := 231) (μ' := mX11_propertyOfPiece) (av := [.int code, .int (nI i)]) (rest := [.long a]) C hR rfl (Or.inl ⟨712, by decide⟩) kX11_propertyOfPiece sX11_propertyOfPiece (c_X11_propertyOfPiece g rest I J code (nI i) ) (by decide +kernel) rfl (by decide) (Nat.le_of_ble_eq_true rfl) rfl ⟨Nat.zero_le _, Nat.zero_le _⟩ ?_
      refine EV_cS (own := 11) (idx := 302) (μ' := mX11_mix) (av := [.long a, .int (r_X11_propertyOfPiece code (nI i))]) (rest := []) C hR rfl (Or.inl ⟨863, by decide⟩) kX11_mix sX11_mix (c_X11_mix g rest I J a (r_X11_propertyOfPiece code (nI i)) ) (by decide +kernel) rfl (by decide) (Nat.le_of_ble_eq_true rfl) rfl ⟨Nat.zero_le _, Nat.zero_le _⟩ ?_
      refine EV_blk (own := 11) C rfl [(.lstore 6, 0, 0, 0, 0), (.iinc 10 1, 0, 0, 0, (nI 1)), (.goto (-23), 0, 0, 0, 0)] (pc' := 146) (by decide +kernel) (lv' := [some (.ref 0), some (.long bf), none, some (.int (nI x)), some (.int (nI y)), some (.int (nI cl)), some (.long (((31 : Int64) * a) + ((r_X11_propertyOfPiece code (nI i))).toInt64)), none, some (.int (nI i0)), some (.int code), some (.int ((nI i) + (nI 1)))]) (st' := []) (I' := I) (J' := J) rfl ?_
      rw [show ((nI i) + (nI 1)) = (nI (i + 1)) from by simp (disch := omega) only [nI_add, tq_mul] <;> exact congrArg nI (by omega)]
      rw [tq_its, show (f_mx1 I code bf x y cl i0) i a = (((31 : Int64) * a) + ((r_X11_propertyOfPiece code (nI i))).toInt64) from by simp only [f_mx1, if_neg h1]] at kk
      exact ih (i + 1) (((31 : Int64) * a) + ((r_X11_propertyOfPiece code (nI i))).toInt64) (by omega) kk
def f_mx2 (I : tq_I) (bf : Int64) (x y cl p : Nat) (i : Nat) (a : Int64) : Int64 := (tq_it (f_mx1 I (I 14 (cl * 7 + i)) bf x y cl i) 4 0 a)
set_option maxRecDepth 20000 in
theorem lp_mx2 {g : tq_G} {rest : List tq_S} {x0 : tq_X} (C : tq_C g mX11_mixCell x0) (hR : tq_ht x0 7 0 0) (I : tq_I) (J : Int64) (bf : Int64) (x y cl p : Nat) (hcl : cl ≤ 99) (hp : I 13 cl = nI p) (hp7 : p ≤ 7) : ∀ (n i : Nat) (a : Int64), i + n = p → EV g mX11_mixCell x0 0 0 178 [some (.ref 0), some (.long bf), none, some (.int (nI x)), some (.int (nI y)), some (.int (nI cl)), some (.long (tq_it (f_mx2 I bf x y cl p) n i a)), none, some (.int (nI (i + n))), none, none] [] (tq_SC ++ rest) tq_RR I J → EV g mX11_mixCell x0 0 0 109 [some (.ref 0), some (.long bf), none, some (.int (nI x)), some (.int (nI y)), some (.int (nI cl)), some (.long a), none, some (.int (nI i)), none, none] [] (tq_SC ++ rest) tq_RR I J := by
  intro n
  induction n with
  | zero =>
    intro i a hi kk
    rw [Nat.add_zero] at kk
    refine EV_blk (own := 11) C rfl [(.iload 8, 0, 0, 0, 0), (.aload_n 0, 0, 0, 0, 0), (.getfield 12, 11, 0, 368, 0), (.getfield 234, 8, 2, 199, 0), (.getfield 238, 1, 0, 175, 0), (.iload 5, 0, 0, 0, 0)] (pc' := 123) (by decide +kernel) (lv' := [some (.ref 0), some (.long bf), none, some (.int (nI x)), some (.int (nI y)), some (.int (nI cl)), some (.long a), none, some (.int (nI i)), none, none]) (st' := [.int (nI cl), .ref 13, .int (nI i)]) (I' := I) (J' := J) rfl ?_
    refine EV_iald (j := cl) C (by decide +kernel) rfl (nI_toInt (by omega)) (by omega) ?_
    refine EV_icmp_ge (off := 54) (tgt := 178) C (by decide +kernel) (by decide) (fun h1 => ?_) (fun h1 => ?_)
    · skip
      exact kk
    · skip
      exact absurd h1 (by simp (disch := omega) only [Int32.lt_iff_toInt_lt, Int32.le_iff_toInt_le, Int32.toInt_zero, nI_toInt, tq_m1, hp]; omega)
  | succ n ih =>
    intro i a hi kk
    rw [show i + (n + 1) = (i + 1) + n by omega] at kk
    refine EV_blk (own := 11) C rfl [(.iload 8, 0, 0, 0, 0), (.aload_n 0, 0, 0, 0, 0), (.getfield 12, 11, 0, 368, 0), (.getfield 234, 8, 2, 199, 0), (.getfield 238, 1, 0, 175, 0), (.iload 5, 0, 0, 0, 0)] (pc' := 123) (by decide +kernel) (lv' := [some (.ref 0), some (.long bf), none, some (.int (nI x)), some (.int (nI y)), some (.int (nI cl)), some (.long a), none, some (.int (nI i)), none, none]) (st' := [.int (nI cl), .ref 13, .int (nI i)]) (I' := I) (J' := J) rfl ?_
    refine EV_iald (j := cl) C (by decide +kernel) rfl (nI_toInt (by omega)) (by omega) ?_
    refine EV_icmp_ge (off := 54) (tgt := 178) C (by decide +kernel) (by decide) (fun h1 => ?_) (fun h1 => ?_)
    · skip
      exact absurd h1 (by simp (disch := omega) only [Int32.lt_iff_toInt_lt, Int32.le_iff_toInt_le, Int32.toInt_zero, nI_toInt, tq_m1, hp]; omega)
    · skip
      refine EV_blk (own := 11) C rfl [(.aload_n 0, 0, 0, 0, 0), (.getfield 12, 11, 0, 368, 0), (.getfield 234, 8, 2, 199, 0), (.iload 5, 0, 0, 0, 0), (.iload 8, 0, 0, 0, 0)] (pc' := 138) (by decide +kernel) (lv' := [some (.ref 0), some (.long bf), none, some (.int (nI x)), some (.int (nI y)), some (.int (nI cl)), some (.long a), none, some (.int (nI i)), none, none]) (st' := [.int (nI i), .int (nI cl), .ref 12]) (I' := I) (J' := J) rfl ?_
      refine EV_cV (own := 11) (idx := 331) (μ' := mX1_codeAt) (b := 12) (cb := 1) (av := [.int (nI cl), .int (nI i)]) (rest := []) C hR rfl (Or.inl ⟨871, by decide⟩) kX1_codeAt sX1_codeAt (c_X1_codeAt g rest I J cl i (by omega) (by omega)) rfl rfl (by decide +kernel) rfl (by decide) (Nat.le_of_ble_eq_true rfl) rfl ⟨Nat.zero_le _, Nat.zero_le _⟩ ?_
      refine EV_blk (own := 11) C rfl [(.istore 9, 0, 0, 0, 0), (.iconst 0, 0, 0, 0, (nI 0)), (.istore 10, 0, 0, 0, 0)] (pc' := 146) (by decide +kernel) (lv' := [some (.ref 0), some (.long bf), none, some (.int (nI x)), some (.int (nI y)), some (.int (nI cl)), some (.long a), none, some (.int (nI i)), some (.int (I 14 (cl * 7 + i))), some (.int (nI 0))]) (st' := []) (I' := I) (J' := J) rfl ?_
      refine lp_mx1 C hR I J (I 14 (cl * 7 + i)) bf x y cl i  4 0 a (by omega) ?_
      refine EV_blk (own := 11) C rfl [(.iinc 8 1, 0, 0, 0, (nI 1)), (.goto (-66), 0, 0, 0, 0)] (pc' := 109) (by decide +kernel) (lv' := [some (.ref 0), some (.long bf), none, some (.int (nI x)), some (.int (nI y)), some (.int (nI cl)), some (.long (tq_it (f_mx1 I (I 14 (cl * 7 + i)) bf x y cl i) 4 0 a)), none, some (.int ((nI i) + (nI 1))), some (.int (I 14 (cl * 7 + i))), some (.int (nI ((0 + 4))))]) (st' := []) (I' := I) (J' := J) rfl ?_
      refine EV_fg (lv' := [some (.ref 0), some (.long bf), none, some (.int (nI x)), some (.int (nI y)), some (.int (nI cl)), some (.long (tq_it (f_mx1 I (I 14 (cl * 7 + i)) bf x y cl i) 4 0 a)), none, some (.int ((nI i) + (nI 1))), none, none]) ⟨rfl, rfl, rfl, rfl, rfl, rfl, rfl, trivial⟩ ?_
      rw [show ((nI i) + (nI 1)) = (nI (i + 1)) from by simp (disch := omega) only [nI_add, tq_mul] <;> exact congrArg nI (by omega)]
      rw [tq_its, show (f_mx2 I bf x y cl p) i a = (tq_it (f_mx1 I (I 14 (cl * 7 + i)) bf x y cl i) 4 0 a) from by simp only [f_mx2, if_neg h1]] at kk
      exact ih (i + 1) (tq_it (f_mx1 I (I 14 (cl * 7 + i)) bf x y cl i) 4 0 a) (by omega) kk
def r_X11_mixCell (I : tq_I) (v : Int64) (x y : Nat) (w h o c L : Nat) : Int64 := (if (r_X1_shows (I_X7_draw I x y) (y * 10 + x) (tq_N (I_X7_draw I x y 102 5))) = 0 then (tq_it (f_mx2 (I_X7_draw I x y) v x y (y * 10 + x) (tq_N (I 13 (y * 10 + x)))) (tq_N (I 13 (y * 10 + x))) 0 (((31 : Int64) * (((31 : Int64) * (((31 : Int64) * (((31 : Int64) * v) + (((I_X7_draw I x y) 4 (y * 10 + x))).toInt64)) + (((I_X7_draw I x y) 102 6)).toInt64)) + ((nI 1)).toInt64)) + (((I_X7_draw I x y) 13 (y * 10 + x))).toInt64)) else (tq_it (f_mx2 (I_X7_draw I x y) v x y (y * 10 + x) (tq_N (I 13 (y * 10 + x)))) (tq_N (I 13 (y * 10 + x))) 0 (((31 : Int64) * (((31 : Int64) * (((31 : Int64) * (((31 : Int64) * v) + (((I_X7_draw I x y) 4 (y * 10 + x))).toInt64)) + (((I_X7_draw I x y) 102 6)).toInt64)) + ((nI 0)).toInt64)) + (((I_X7_draw I x y) 13 (y * 10 + x))).toInt64)))
def I_X11_mixCell (I : tq_I) (v : Int64) (x y : Nat) (w h o c L : Nat) : tq_I := (if (r_X1_shows (I_X7_draw I x y) (y * 10 + x) (tq_N (I_X7_draw I x y 102 5))) = 0 then (I_X7_draw I x y) else (I_X7_draw I x y))
set_option maxRecDepth 20000 in
theorem c_X11_mixCell (g : tq_G) (rest : List tq_S) (I : tq_I) (J : Int64) (v : Int64) (x y : Nat) (w h o c L : Nat) (k : tq_ok I w h o c L) (hx : x < w) (hy : y < h) : CT g mX11_mixCell 7 0 0 [.ref 0, .long v, .int (nI x), .int (nI y)] (tq_SC ++ rest) tq_RR I J (tq_ret (tq_SC ++ rest) tq_RR (some (.long (r_X11_mixCell I v x y w h o c L))) (I_X11_mixCell I v x y w h o c L) J) := by
  refine CT.ret kX11_mixCell (Nat.le_of_ble_eq_true rfl) (fun x0 C hR hZ => ?_)
  refine EV_en (lv' := [some (.ref 0), some (.long v), none, some (.int (nI x)), some (.int (nI y)), none, none, none, none, none, none]) 6 rfl ?_
  have hw10 := k.w10
  have hh10 := k.h10
  refine EV_blk (own := 11) C rfl [(.iload_n 3, 0, 0, 0, 0), (.iload 4, 0, 0, 0, 0)] (pc' := 3) (by decide +kernel) (lv' := [some (.ref 0), some (.long v), none, some (.int (nI x)), some (.int (nI y)), none, none, none, none, none, none]) (st' := [.int (nI y), .int (nI x)]) (I' := I) (J' := J) rfl ?_
  refine EV_cS (own := 11) (idx := 243) (μ' := mX11_cellIndex) (av := [.int (nI x), .int (nI y)]) (rest := []) C hR rfl (Or.inl ⟨719, by decide⟩) kX11_cellIndex sX11_cellIndex (c_X11_cellIndex g rest I J x y ) (by decide +kernel) rfl (by decide) (Nat.le_of_ble_eq_true rfl) rfl ⟨Nat.zero_le _, Nat.zero_le _⟩ ?_
  refine EV_blk (own := 11) C rfl [(.istore 5, 0, 0, 0, 0), (.aload_n 0, 0, 0, 0, 0), (.getfield 33, 11, 3, 371, 0), (.aload_n 0, 0, 0, 0, 0), (.getfield 12, 11, 0, 368, 0), (.iload_n 3, 0, 0, 0, 0), (.iload 4, 0, 0, 0, 0)] (pc' := 19) (by decide +kernel) (lv' := [some (.ref 0), some (.long v), none, some (.int (nI x)), some (.int (nI y)), some (.int (nI (y * 10 + x))), none, none, none, none, none]) (st' := [.int (nI y), .int (nI x), .ref 1, .ref 102]) (I' := I) (J' := J) rfl ?_
  refine EV_cV (own := 11) (idx := 212) (μ' := mX7_draw) (b := 102) (cb := 7) (av := [.ref 1, .int (nI x), .int (nI y)]) (rest := []) C hR rfl (Or.inl ⟨664, by decide⟩) kX7_draw sX7_draw (c_X7_draw g rest I J x y (by omega) (by omega) (k.hT (by omega) (by omega)) k.r7 k.wi k.hi k.bd) rfl rfl (by decide +kernel) rfl (by decide) (Nat.le_of_ble_eq_true rfl) rfl ⟨Nat.zero_le _, Nat.zero_le _⟩ ?_
  refine EV_blk (own := 11) C rfl [(.lload_n 1, 0, 0, 0, 0), (.aload_n 0, 0, 0, 0, 0), (.getfield 12, 11, 0, 368, 0), (.getfield 77, 8, 0, 193, 0), (.iload_n 3, 0, 0, 0, 0), (.iload 4, 0, 0, 0, 0)] (pc' := 33) (by decide +kernel) (lv' := [some (.ref 0), some (.long v), none, some (.int (nI x)), some (.int (nI y)), some (.int (nI (y * 10 + x))), none, none, none, none, none]) (st' := [.int (nI y), .int (nI x), .ref 2, .long v]) (I' := (I_X7_draw I x y)) (J' := J) rfl ?_
  refine EV_cV (own := 11) (idx := 156) (μ' := mX3_pathAt) (b := 2) (cb := 3) (av := [.int (nI x), .int (nI y)]) (rest := [.long v]) C hR rfl (Or.inl ⟨544, by decide⟩) kX3_pathAt sX3_pathAt (c_X3_pathAt g rest (I_X7_draw I x y) J x y (by omega) (by omega)) rfl rfl (by decide +kernel) rfl (by decide) (Nat.le_of_ble_eq_true rfl) rfl ⟨Nat.zero_le _, Nat.zero_le _⟩ ?_
  refine EV_cS (own := 11) (idx := 302) (μ' := mX11_mix) (av := [.long v, .int ((I_X7_draw I x y) 4 (y * 10 + x))]) (rest := []) C hR rfl (Or.inl ⟨863, by decide⟩) kX11_mix sX11_mix (c_X11_mix g rest (I_X7_draw I x y) J v ((I_X7_draw I x y) 4 (y * 10 + x)) ) (by decide +kernel) rfl (by decide) (Nat.le_of_ble_eq_true rfl) rfl ⟨Nat.zero_le _, Nat.zero_le _⟩ ?_
  refine EV_blk (own := 11) C rfl [(.lstore 6, 0, 0, 0, 0), (.lload 6, 0, 0, 0, 0), (.aload_n 0, 0, 0, 0, 0), (.getfield 33, 11, 3, 371, 0), (.getfield 328, 7, 6, 265, 0)] (pc' := 50) (by decide +kernel) (lv' := [some (.ref 0), some (.long v), none, some (.int (nI x)), some (.int (nI y)), some (.int (nI (y * 10 + x))), some (.long (((31 : Int64) * v) + (((I_X7_draw I x y) 4 (y * 10 + x))).toInt64)), none, none, none, none]) (st' := [.int ((I_X7_draw I x y) 102 6), .long (((31 : Int64) * v) + (((I_X7_draw I x y) 4 (y * 10 + x))).toInt64)]) (I' := (I_X7_draw I x y)) (J' := J) rfl ?_
  refine EV_cS (own := 11) (idx := 302) (μ' := mX11_mix) (av := [.long (((31 : Int64) * v) + (((I_X7_draw I x y) 4 (y * 10 + x))).toInt64), .int ((I_X7_draw I x y) 102 6)]) (rest := []) C hR rfl (Or.inl ⟨863, by decide⟩) kX11_mix sX11_mix (c_X11_mix g rest (I_X7_draw I x y) J (((31 : Int64) * v) + (((I_X7_draw I x y) 4 (y * 10 + x))).toInt64) ((I_X7_draw I x y) 102 6) ) (by decide +kernel) rfl (by decide) (Nat.le_of_ble_eq_true rfl) rfl ⟨Nat.zero_le _, Nat.zero_le _⟩ ?_
  refine EV_blk (own := 11) C rfl [(.lstore 6, 0, 0, 0, 0), (.lload 6, 0, 0, 0, 0), (.aload_n 0, 0, 0, 0, 0), (.getfield 12, 11, 0, 368, 0), (.getfield 234, 8, 2, 199, 0), (.iload 5, 0, 0, 0, 0), (.aload_n 0, 0, 0, 0, 0), (.getfield 33, 11, 3, 371, 0)] (pc' := 70) (by decide +kernel) (lv' := [some (.ref 0), some (.long v), none, some (.int (nI x)), some (.int (nI y)), some (.int (nI (y * 10 + x))), some (.long (((31 : Int64) * (((31 : Int64) * v) + (((I_X7_draw I x y) 4 (y * 10 + x))).toInt64)) + (((I_X7_draw I x y) 102 6)).toInt64)), none, none, none, none]) (st' := [.ref 102, .int (nI (y * 10 + x)), .ref 12, .long (((31 : Int64) * (((31 : Int64) * v) + (((I_X7_draw I x y) 4 (y * 10 + x))).toInt64)) + (((I_X7_draw I x y) 102 6)).toInt64)]) (I' := (I_X7_draw I x y)) (J' := J) rfl ?_
  refine EV_cV (own := 11) (idx := 318) (μ' := mX1_shows) (b := 12) (cb := 1) (av := [.int (nI (y * 10 + x)), .ref 102]) (rest := [.long (((31 : Int64) * (((31 : Int64) * v) + (((I_X7_draw I x y) 4 (y * 10 + x))).toInt64)) + (((I_X7_draw I x y) 102 6)).toInt64)]) C hR rfl (Or.inl ⟨728, by decide⟩) kX1_shows sX1_shows (c_X1_shows g rest (I_X7_draw I x y) J (y * 10 + x) (tq_N (I_X7_draw I x y 102 5)) (by omega) (tq_nIN (tq_draw_ok (x := x) (y := y) k.r7).1.1) (tq_N7 (tq_draw_ok (x := x) (y := y) k.r7).1)) rfl rfl (by decide +kernel) rfl (by decide) (Nat.le_of_ble_eq_true rfl) rfl ⟨Nat.zero_le _, Nat.zero_le _⟩ ?_
  refine EV_if_eq (off := 7) (tgt := 80) C (by decide +kernel) (by decide) (fun h1 => ?_) (fun h1 => ?_)
  · skip
    refine EV_blk (own := 11) C rfl [(.iconst 1, 0, 0, 0, (nI 1))] (pc' := 81) (by decide +kernel) (lv' := [some (.ref 0), some (.long v), none, some (.int (nI x)), some (.int (nI y)), some (.int (nI (y * 10 + x))), some (.long (((31 : Int64) * (((31 : Int64) * v) + (((I_X7_draw I x y) 4 (y * 10 + x))).toInt64)) + (((I_X7_draw I x y) 102 6)).toInt64)), none, none, none, none]) (st' := [.int (nI 1), .long (((31 : Int64) * (((31 : Int64) * v) + (((I_X7_draw I x y) 4 (y * 10 + x))).toInt64)) + (((I_X7_draw I x y) 102 6)).toInt64)]) (I' := (I_X7_draw I x y)) (J' := J) rfl ?_
    refine EV_cS (own := 11) (idx := 302) (μ' := mX11_mix) (av := [.long (((31 : Int64) * (((31 : Int64) * v) + (((I_X7_draw I x y) 4 (y * 10 + x))).toInt64)) + (((I_X7_draw I x y) 102 6)).toInt64), .int (nI 1)]) (rest := []) C hR rfl (Or.inl ⟨863, by decide⟩) kX11_mix sX11_mix (c_X11_mix g rest (I_X7_draw I x y) J (((31 : Int64) * (((31 : Int64) * v) + (((I_X7_draw I x y) 4 (y * 10 + x))).toInt64)) + (((I_X7_draw I x y) 102 6)).toInt64) (nI 1) ) (by decide +kernel) rfl (by decide) (Nat.le_of_ble_eq_true rfl) rfl ⟨Nat.zero_le _, Nat.zero_le _⟩ ?_
    refine EV_blk (own := 11) C rfl [(.lstore 6, 0, 0, 0, 0), (.lload 6, 0, 0, 0, 0), (.aload_n 0, 0, 0, 0, 0), (.getfield 12, 11, 0, 368, 0), (.getfield 234, 8, 2, 199, 0), (.getfield 238, 1, 0, 175, 0), (.iload 5, 0, 0, 0, 0)] (pc' := 100) (by decide +kernel) (lv' := [some (.ref 0), some (.long v), none, some (.int (nI x)), some (.int (nI y)), some (.int (nI (y * 10 + x))), some (.long (((31 : Int64) * (((31 : Int64) * (((31 : Int64) * v) + (((I_X7_draw I x y) 4 (y * 10 + x))).toInt64)) + (((I_X7_draw I x y) 102 6)).toInt64)) + ((nI 1)).toInt64)), none, none, none, none]) (st' := [.int (nI (y * 10 + x)), .ref 13, .long (((31 : Int64) * (((31 : Int64) * (((31 : Int64) * v) + (((I_X7_draw I x y) 4 (y * 10 + x))).toInt64)) + (((I_X7_draw I x y) 102 6)).toInt64)) + ((nI 1)).toInt64)]) (I' := (I_X7_draw I x y)) (J' := J) rfl ?_
    refine EV_iald (j := (y * 10 + x)) C (by decide +kernel) rfl (nI_toInt (by omega)) (by omega) ?_
    refine EV_cS (own := 11) (idx := 302) (μ' := mX11_mix) (av := [.long (((31 : Int64) * (((31 : Int64) * (((31 : Int64) * v) + (((I_X7_draw I x y) 4 (y * 10 + x))).toInt64)) + (((I_X7_draw I x y) 102 6)).toInt64)) + ((nI 1)).toInt64), .int ((I_X7_draw I x y) 13 (y * 10 + x))]) (rest := []) C hR rfl (Or.inl ⟨863, by decide⟩) kX11_mix sX11_mix (c_X11_mix g rest (I_X7_draw I x y) J (((31 : Int64) * (((31 : Int64) * (((31 : Int64) * v) + (((I_X7_draw I x y) 4 (y * 10 + x))).toInt64)) + (((I_X7_draw I x y) 102 6)).toInt64)) + ((nI 1)).toInt64) ((I_X7_draw I x y) 13 (y * 10 + x)) ) (by decide +kernel) rfl (by decide) (Nat.le_of_ble_eq_true rfl) rfl ⟨Nat.zero_le _, Nat.zero_le _⟩ ?_
    refine EV_blk (own := 11) C rfl [(.lstore 6, 0, 0, 0, 0), (.iconst 0, 0, 0, 0, (nI 0)), (.istore 8, 0, 0, 0, 0)] (pc' := 109) (by decide +kernel) (lv' := [some (.ref 0), some (.long v), none, some (.int (nI x)), some (.int (nI y)), some (.int (nI (y * 10 + x))), some (.long (((31 : Int64) * (((31 : Int64) * (((31 : Int64) * (((31 : Int64) * v) + (((I_X7_draw I x y) 4 (y * 10 + x))).toInt64)) + (((I_X7_draw I x y) 102 6)).toInt64)) + ((nI 1)).toInt64)) + (((I_X7_draw I x y) 13 (y * 10 + x))).toInt64)), none, some (.int (nI 0)), none, none]) (st' := []) (I' := (I_X7_draw I x y)) (J' := J) rfl ?_
    refine lp_mx2 C hR (I_X7_draw I x y) J v x y (y * 10 + x) (tq_N (I 13 (y * 10 + x))) (by omega) (by rw [fr_X7_draw _ _ _ (by decide)]; exact tq_nIN (k.cv (y * 10 + x) (by omega)).1.1) (tq_N7 (k.cv (y * 10 + x) (by omega)).1) (tq_N (I 13 (y * 10 + x))) 0 (((31 : Int64) * (((31 : Int64) * (((31 : Int64) * (((31 : Int64) * v) + (((I_X7_draw I x y) 4 (y * 10 + x))).toInt64)) + (((I_X7_draw I x y) 102 6)).toInt64)) + ((nI 1)).toInt64)) + (((I_X7_draw I x y) 13 (y * 10 + x))).toInt64) (by omega) ?_
    refine EV_blk (own := 11) C rfl [(.lload 6, 0, 0, 0, 0)] (pc' := 180) (by decide +kernel) (lv' := [some (.ref 0), some (.long v), none, some (.int (nI x)), some (.int (nI y)), some (.int (nI (y * 10 + x))), some (.long (tq_it (f_mx2 (I_X7_draw I x y) v x y (y * 10 + x) (tq_N (I 13 (y * 10 + x)))) (tq_N (I 13 (y * 10 + x))) 0 (((31 : Int64) * (((31 : Int64) * (((31 : Int64) * (((31 : Int64) * v) + (((I_X7_draw I x y) 4 (y * 10 + x))).toInt64)) + (((I_X7_draw I x y) 102 6)).toInt64)) + ((nI 1)).toInt64)) + (((I_X7_draw I x y) 13 (y * 10 + x))).toInt64))), none, some (.int (nI ((0 + (tq_N (I 13 (y * 10 + x))))))), none, none]) (st' := [.long (tq_it (f_mx2 (I_X7_draw I x y) v x y (y * 10 + x) (tq_N (I 13 (y * 10 + x)))) (tq_N (I 13 (y * 10 + x))) 0 (((31 : Int64) * (((31 : Int64) * (((31 : Int64) * (((31 : Int64) * v) + (((I_X7_draw I x y) 4 (y * 10 + x))).toInt64)) + (((I_X7_draw I x y) 102 6)).toInt64)) + ((nI 1)).toInt64)) + (((I_X7_draw I x y) 13 (y * 10 + x))).toInt64))]) (I' := (I_X7_draw I x y)) (J' := J) rfl ?_
    exact EV_lret C hZ rfl (by decide +kernel) (Nat.le_refl _) (Nat.le_refl _) ⟨tq_somel (by simp only [r_X11_mixCell, if_pos h1]), rfl, rfl, by simp only [I_X11_mixCell, if_pos h1], rfl⟩
  · skip
    refine EV_blk (own := 11) C rfl [(.iconst 0, 0, 0, 0, (nI 0)), (.goto 4, 0, 0, 0, 0)] (pc' := 81) (by decide +kernel) (lv' := [some (.ref 0), some (.long v), none, some (.int (nI x)), some (.int (nI y)), some (.int (nI (y * 10 + x))), some (.long (((31 : Int64) * (((31 : Int64) * v) + (((I_X7_draw I x y) 4 (y * 10 + x))).toInt64)) + (((I_X7_draw I x y) 102 6)).toInt64)), none, none, none, none]) (st' := [.int (nI 0), .long (((31 : Int64) * (((31 : Int64) * v) + (((I_X7_draw I x y) 4 (y * 10 + x))).toInt64)) + (((I_X7_draw I x y) 102 6)).toInt64)]) (I' := (I_X7_draw I x y)) (J' := J) rfl ?_
    refine EV_cS (own := 11) (idx := 302) (μ' := mX11_mix) (av := [.long (((31 : Int64) * (((31 : Int64) * v) + (((I_X7_draw I x y) 4 (y * 10 + x))).toInt64)) + (((I_X7_draw I x y) 102 6)).toInt64), .int (nI 0)]) (rest := []) C hR rfl (Or.inl ⟨863, by decide⟩) kX11_mix sX11_mix (c_X11_mix g rest (I_X7_draw I x y) J (((31 : Int64) * (((31 : Int64) * v) + (((I_X7_draw I x y) 4 (y * 10 + x))).toInt64)) + (((I_X7_draw I x y) 102 6)).toInt64) (nI 0) ) (by decide +kernel) rfl (by decide) (Nat.le_of_ble_eq_true rfl) rfl ⟨Nat.zero_le _, Nat.zero_le _⟩ ?_
    refine EV_blk (own := 11) C rfl [(.lstore 6, 0, 0, 0, 0), (.lload 6, 0, 0, 0, 0), (.aload_n 0, 0, 0, 0, 0), (.getfield 12, 11, 0, 368, 0), (.getfield 234, 8, 2, 199, 0), (.getfield 238, 1, 0, 175, 0), (.iload 5, 0, 0, 0, 0)] (pc' := 100) (by decide +kernel) (lv' := [some (.ref 0), some (.long v), none, some (.int (nI x)), some (.int (nI y)), some (.int (nI (y * 10 + x))), some (.long (((31 : Int64) * (((31 : Int64) * (((31 : Int64) * v) + (((I_X7_draw I x y) 4 (y * 10 + x))).toInt64)) + (((I_X7_draw I x y) 102 6)).toInt64)) + ((nI 0)).toInt64)), none, none, none, none]) (st' := [.int (nI (y * 10 + x)), .ref 13, .long (((31 : Int64) * (((31 : Int64) * (((31 : Int64) * v) + (((I_X7_draw I x y) 4 (y * 10 + x))).toInt64)) + (((I_X7_draw I x y) 102 6)).toInt64)) + ((nI 0)).toInt64)]) (I' := (I_X7_draw I x y)) (J' := J) rfl ?_
    refine EV_iald (j := (y * 10 + x)) C (by decide +kernel) rfl (nI_toInt (by omega)) (by omega) ?_
    refine EV_cS (own := 11) (idx := 302) (μ' := mX11_mix) (av := [.long (((31 : Int64) * (((31 : Int64) * (((31 : Int64) * v) + (((I_X7_draw I x y) 4 (y * 10 + x))).toInt64)) + (((I_X7_draw I x y) 102 6)).toInt64)) + ((nI 0)).toInt64), .int ((I_X7_draw I x y) 13 (y * 10 + x))]) (rest := []) C hR rfl (Or.inl ⟨863, by decide⟩) kX11_mix sX11_mix (c_X11_mix g rest (I_X7_draw I x y) J (((31 : Int64) * (((31 : Int64) * (((31 : Int64) * v) + (((I_X7_draw I x y) 4 (y * 10 + x))).toInt64)) + (((I_X7_draw I x y) 102 6)).toInt64)) + ((nI 0)).toInt64) ((I_X7_draw I x y) 13 (y * 10 + x)) ) (by decide +kernel) rfl (by decide) (Nat.le_of_ble_eq_true rfl) rfl ⟨Nat.zero_le _, Nat.zero_le _⟩ ?_
    refine EV_blk (own := 11) C rfl [(.lstore 6, 0, 0, 0, 0), (.iconst 0, 0, 0, 0, (nI 0)), (.istore 8, 0, 0, 0, 0)] (pc' := 109) (by decide +kernel) (lv' := [some (.ref 0), some (.long v), none, some (.int (nI x)), some (.int (nI y)), some (.int (nI (y * 10 + x))), some (.long (((31 : Int64) * (((31 : Int64) * (((31 : Int64) * (((31 : Int64) * v) + (((I_X7_draw I x y) 4 (y * 10 + x))).toInt64)) + (((I_X7_draw I x y) 102 6)).toInt64)) + ((nI 0)).toInt64)) + (((I_X7_draw I x y) 13 (y * 10 + x))).toInt64)), none, some (.int (nI 0)), none, none]) (st' := []) (I' := (I_X7_draw I x y)) (J' := J) rfl ?_
    refine lp_mx2 C hR (I_X7_draw I x y) J v x y (y * 10 + x) (tq_N (I 13 (y * 10 + x))) (by omega) (by rw [fr_X7_draw _ _ _ (by decide)]; exact tq_nIN (k.cv (y * 10 + x) (by omega)).1.1) (tq_N7 (k.cv (y * 10 + x) (by omega)).1) (tq_N (I 13 (y * 10 + x))) 0 (((31 : Int64) * (((31 : Int64) * (((31 : Int64) * (((31 : Int64) * v) + (((I_X7_draw I x y) 4 (y * 10 + x))).toInt64)) + (((I_X7_draw I x y) 102 6)).toInt64)) + ((nI 0)).toInt64)) + (((I_X7_draw I x y) 13 (y * 10 + x))).toInt64) (by omega) ?_
    refine EV_blk (own := 11) C rfl [(.lload 6, 0, 0, 0, 0)] (pc' := 180) (by decide +kernel) (lv' := [some (.ref 0), some (.long v), none, some (.int (nI x)), some (.int (nI y)), some (.int (nI (y * 10 + x))), some (.long (tq_it (f_mx2 (I_X7_draw I x y) v x y (y * 10 + x) (tq_N (I 13 (y * 10 + x)))) (tq_N (I 13 (y * 10 + x))) 0 (((31 : Int64) * (((31 : Int64) * (((31 : Int64) * (((31 : Int64) * v) + (((I_X7_draw I x y) 4 (y * 10 + x))).toInt64)) + (((I_X7_draw I x y) 102 6)).toInt64)) + ((nI 0)).toInt64)) + (((I_X7_draw I x y) 13 (y * 10 + x))).toInt64))), none, some (.int (nI ((0 + (tq_N (I 13 (y * 10 + x))))))), none, none]) (st' := [.long (tq_it (f_mx2 (I_X7_draw I x y) v x y (y * 10 + x) (tq_N (I 13 (y * 10 + x)))) (tq_N (I 13 (y * 10 + x))) 0 (((31 : Int64) * (((31 : Int64) * (((31 : Int64) * (((31 : Int64) * v) + (((I_X7_draw I x y) 4 (y * 10 + x))).toInt64)) + (((I_X7_draw I x y) 102 6)).toInt64)) + ((nI 0)).toInt64)) + (((I_X7_draw I x y) 13 (y * 10 + x))).toInt64))]) (I' := (I_X7_draw I x y)) (J' := J) rfl ?_
    exact EV_lret C hZ rfl (by decide +kernel) (Nat.le_refl _) (Nat.le_refl _) ⟨tq_somel (by simp only [r_X11_mixCell, if_neg h1]), rfl, rfl, by simp only [I_X11_mixCell, if_neg h1], rfl⟩
def f_dg1 (I : tq_I) (y w h : Nat) (i : Nat) (a : Int64) : Int64 := (((31 : Int64) * a) + ((I 3 (y * 11 + i))).toInt64)
set_option maxRecDepth 20000 in
theorem lp_dg1 {g : tq_G} {rest : List tq_S} {x0 : tq_X} (C : tq_C g mX11_digest x0) (hR : tq_ht x0 8 0 0) (I : tq_I) (J : Int64) (y w h : Nat) (hw : I 2 0 = nI w) (hw10 : w ≤ 10) (hy : y ≤ 10) : ∀ (n i : Nat) (a : Int64), i + n = w + 1 → EV g mX11_digest x0 0 0 88 [some (.ref 0), some (.long (tq_it (f_dg1 I y w h) n i a)), none, some (.int (nI y)), some (.int (nI (i + n)))] [] (tq_SC ++ rest) tq_RR I J → EV g mX11_digest x0 0 0 49 [some (.ref 0), some (.long a), none, some (.int (nI y)), some (.int (nI i))] [] (tq_SC ++ rest) tq_RR I J := by
  intro n
  induction n with
  | zero =>
    intro i a hi kk
    rw [Nat.add_zero] at kk
    refine EV_blk (own := 11) C rfl [(.iload 4, 0, 0, 0, 0), (.aload_n 0, 0, 0, 0, 0), (.getfield 12, 11, 0, 368, 0), (.getfield 77, 8, 0, 193, 0), (.getfield 81, 3, 0, 98, 0)] (pc' := 61) (by decide +kernel) (lv' := [some (.ref 0), some (.long a), none, some (.int (nI y)), some (.int (nI i))]) (st' := [.int (I 2 0), .int (nI i)]) (I' := I) (J' := J) rfl ?_
    refine EV_icmp_gt (off := 27) (tgt := 88) C (by decide +kernel) (by decide) (fun h1 => ?_) (fun h1 => ?_)
    · skip
      exact kk
    · skip
      exact absurd h1 (by simp (disch := omega) only [Int32.lt_iff_toInt_lt, Int32.le_iff_toInt_le, Int32.toInt_zero, nI_toInt, tq_m1, hw]; omega)
  | succ n ih =>
    intro i a hi kk
    rw [show i + (n + 1) = (i + 1) + n by omega] at kk
    refine EV_blk (own := 11) C rfl [(.iload 4, 0, 0, 0, 0), (.aload_n 0, 0, 0, 0, 0), (.getfield 12, 11, 0, 368, 0), (.getfield 77, 8, 0, 193, 0), (.getfield 81, 3, 0, 98, 0)] (pc' := 61) (by decide +kernel) (lv' := [some (.ref 0), some (.long a), none, some (.int (nI y)), some (.int (nI i))]) (st' := [.int (I 2 0), .int (nI i)]) (I' := I) (J' := J) rfl ?_
    refine EV_icmp_gt (off := 27) (tgt := 88) C (by decide +kernel) (by decide) (fun h1 => ?_) (fun h1 => ?_)
    · skip
      exact absurd h1 (by simp (disch := omega) only [Int32.lt_iff_toInt_lt, Int32.le_iff_toInt_le, Int32.toInt_zero, nI_toInt, tq_m1, hw]; omega)
    · skip
      refine EV_blk (own := 11) C rfl [(.lload_n 1, 0, 0, 0, 0), (.aload_n 0, 0, 0, 0, 0), (.getfield 12, 11, 0, 368, 0), (.getfield 77, 8, 0, 193, 0), (.iload 4, 0, 0, 0, 0), (.iload_n 3, 0, 0, 0, 0)] (pc' := 75) (by decide +kernel) (lv' := [some (.ref 0), some (.long a), none, some (.int (nI y)), some (.int (nI i))]) (st' := [.int (nI y), .int (nI i), .ref 2, .long a]) (I' := I) (J' := J) rfl ?_
      refine EV_cV (own := 11) (idx := 98) (μ' := mX3_terrainAt) (b := 2) (cb := 3) (av := [.int (nI i), .int (nI y)]) (rest := [.long a]) C hR rfl (Or.inl ⟨454, by decide⟩) kX3_terrainAt sX3_terrainAt (c_X3_terrainAt g rest I J i y (by omega) (by omega)) rfl rfl (by decide +kernel) rfl (by decide) (Nat.le_of_ble_eq_true rfl) rfl ⟨Nat.zero_le _, Nat.zero_le _⟩ ?_
      refine EV_cS (own := 11) (idx := 302) (μ' := mX11_mix) (av := [.long a, .int (I 3 (y * 11 + i))]) (rest := []) C hR rfl (Or.inl ⟨863, by decide⟩) kX11_mix sX11_mix (c_X11_mix g rest I J a (I 3 (y * 11 + i)) ) (by decide +kernel) rfl (by decide) (Nat.le_of_ble_eq_true rfl) rfl ⟨Nat.zero_le _, Nat.zero_le _⟩ ?_
      refine EV_blk (own := 11) C rfl [(.lstore_n 1, 0, 0, 0, 0), (.iinc 4 1, 0, 0, 0, (nI 1)), (.goto (-36), 0, 0, 0, 0)] (pc' := 49) (by decide +kernel) (lv' := [some (.ref 0), some (.long (((31 : Int64) * a) + ((I 3 (y * 11 + i))).toInt64)), none, some (.int (nI y)), some (.int ((nI i) + (nI 1)))]) (st' := []) (I' := I) (J' := J) rfl ?_
      rw [show ((nI i) + (nI 1)) = (nI (i + 1)) from by simp (disch := omega) only [nI_add, tq_mul] <;> exact congrArg nI (by omega)]
      rw [tq_its, show (f_dg1 I y w h) i a = (((31 : Int64) * a) + ((I 3 (y * 11 + i))).toInt64) from by simp only [f_dg1, if_neg h1]] at kk
      exact ih (i + 1) (((31 : Int64) * a) + ((I 3 (y * 11 + i))).toInt64) (by omega) kk
def f_dg2 (I : tq_I) (w h : Nat) (i : Nat) (a : Int64) : Int64 := (tq_it (f_dg1 I i w h) (w + 1) 0 a)
set_option maxRecDepth 20000 in
theorem lp_dg2 {g : tq_G} {rest : List tq_S} {x0 : tq_X} (C : tq_C g mX11_digest x0) (hR : tq_ht x0 8 0 0) (I : tq_I) (J : Int64) (w h : Nat) (hw : I 2 0 = nI w) (hh : I 2 1 = nI h) (hw10 : w ≤ 10) (hh10 : h ≤ 10) : ∀ (n i : Nat) (a : Int64), i + n = h + 1 → EV g mX11_digest x0 0 0 94 [some (.ref 0), some (.long (tq_it (f_dg2 I w h) n i a)), none, some (.int (nI (i + n))), none] [] (tq_SC ++ rest) tq_RR I J → EV g mX11_digest x0 0 0 32 [some (.ref 0), some (.long a), none, some (.int (nI i)), none] [] (tq_SC ++ rest) tq_RR I J := by
  intro n
  induction n with
  | zero =>
    intro i a hi kk
    rw [Nat.add_zero] at kk
    refine EV_blk (own := 11) C rfl [(.iload_n 3, 0, 0, 0, 0), (.aload_n 0, 0, 0, 0, 0), (.getfield 12, 11, 0, 368, 0), (.getfield 77, 8, 0, 193, 0), (.getfield 87, 3, 1, 102, 0)] (pc' := 43) (by decide +kernel) (lv' := [some (.ref 0), some (.long a), none, some (.int (nI i)), none]) (st' := [.int (I 2 1), .int (nI i)]) (I' := I) (J' := J) rfl ?_
    refine EV_icmp_gt (off := 51) (tgt := 94) C (by decide +kernel) (by decide) (fun h1 => ?_) (fun h1 => ?_)
    · skip
      exact kk
    · skip
      exact absurd h1 (by simp (disch := omega) only [Int32.lt_iff_toInt_lt, Int32.le_iff_toInt_le, Int32.toInt_zero, nI_toInt, tq_m1, hh]; omega)
  | succ n ih =>
    intro i a hi kk
    rw [show i + (n + 1) = (i + 1) + n by omega] at kk
    refine EV_blk (own := 11) C rfl [(.iload_n 3, 0, 0, 0, 0), (.aload_n 0, 0, 0, 0, 0), (.getfield 12, 11, 0, 368, 0), (.getfield 77, 8, 0, 193, 0), (.getfield 87, 3, 1, 102, 0)] (pc' := 43) (by decide +kernel) (lv' := [some (.ref 0), some (.long a), none, some (.int (nI i)), none]) (st' := [.int (I 2 1), .int (nI i)]) (I' := I) (J' := J) rfl ?_
    refine EV_icmp_gt (off := 51) (tgt := 94) C (by decide +kernel) (by decide) (fun h1 => ?_) (fun h1 => ?_)
    · skip
      exact absurd h1 (by simp (disch := omega) only [Int32.lt_iff_toInt_lt, Int32.le_iff_toInt_le, Int32.toInt_zero, nI_toInt, tq_m1, hh]; omega)
    · skip
      refine EV_blk (own := 11) C rfl [(.iconst 0, 0, 0, 0, (nI 0)), (.istore 4, 0, 0, 0, 0)] (pc' := 49) (by decide +kernel) (lv' := [some (.ref 0), some (.long a), none, some (.int (nI i)), some (.int (nI 0))]) (st' := []) (I' := I) (J' := J) rfl ?_
      refine lp_dg1 C hR I J i w h hw hw10 (by omega) (w + 1) 0 a (by omega) ?_
      refine EV_blk (own := 11) C rfl [(.iinc 3 1, 0, 0, 0, (nI 1)), (.goto (-59), 0, 0, 0, 0)] (pc' := 32) (by decide +kernel) (lv' := [some (.ref 0), some (.long (tq_it (f_dg1 I i w h) (w + 1) 0 a)), none, some (.int ((nI i) + (nI 1))), some (.int (nI ((0 + (w + 1)))))]) (st' := []) (I' := I) (J' := J) rfl ?_
      refine EV_fg (lv' := [some (.ref 0), some (.long (tq_it (f_dg1 I i w h) (w + 1) 0 a)), none, some (.int ((nI i) + (nI 1))), none]) ⟨rfl, rfl, rfl, trivial⟩ ?_
      rw [show ((nI i) + (nI 1)) = (nI (i + 1)) from by simp (disch := omega) only [nI_add, tq_mul] <;> exact congrArg nI (by omega)]
      rw [tq_its, show (f_dg2 I w h) i a = (tq_it (f_dg1 I i w h) (w + 1) 0 a) from by simp only [f_dg2, if_neg h1]] at kk
      exact ih (i + 1) (tq_it (f_dg1 I i w h) (w + 1) 0 a) (by omega) kk
theorem tq_ok.mixCell {I : tq_I} {w h o c L : Nat} (k : tq_ok I w h o c L) (v : Int64) (x y : Nat) : tq_ok (I_X11_mixCell I v x y w h o c L) w h o c L := by
  have e : I_X11_mixCell I v x y w h o c L = I_X7_draw I x y := by
    unfold I_X11_mixCell
    split <;> rfl
  rw [e]
  exact k.draw x y
def f_dg3 (y : Nat) (w h o c L : Nat) (i : Nat) (a : Int64 × tq_I) : Int64 × tq_I := ((r_X11_mixCell a.2 a.1 i y w h o c L), (I_X11_mixCell a.2 a.1 i y w h o c L))
set_option maxRecDepth 20000 in
theorem lp_dg3 {g : tq_G} {rest : List tq_S} {x0 : tq_X} (C : tq_C g mX11_digest x0) (hR : tq_ht x0 8 0 0) (J : Int64) (y : Nat) (w h o c L : Nat) (hw10 : w ≤ 10) (hy : y < h) : ∀ (n i : Nat) (a : Int64 × tq_I), i + n = w → tq_ok a.2 w h o c L → EV g mX11_digest x0 0 0 143 [some (.ref 0), some (.long ((tq_it (f_dg3 y w h o c L) n i a).1)), none, some (.int (nI y)), some (.int (nI (i + n)))] [] (tq_SC ++ rest) tq_RR ((tq_it (f_dg3 y w h o c L) n i a).2) J → EV g mX11_digest x0 0 0 113 [some (.ref 0), some (.long a.1), none, some (.int (nI y)), some (.int (nI i))] [] (tq_SC ++ rest) tq_RR a.2 J := by
  intro n
  induction n with
  | zero =>
    intro i a hi hI kk
    rw [Nat.add_zero] at kk
    refine EV_blk (own := 11) C rfl [(.iload 4, 0, 0, 0, 0), (.aload_n 0, 0, 0, 0, 0), (.getfield 12, 11, 0, 368, 0), (.getfield 77, 8, 0, 193, 0), (.getfield 81, 3, 0, 98, 0)] (pc' := 125) (by decide +kernel) (lv' := [some (.ref 0), some (.long a.1), none, some (.int (nI y)), some (.int (nI i))]) (st' := [.int (a.2 2 0), .int (nI i)]) (I' := a.2) (J' := J) rfl ?_
    refine EV_icmp_ge (off := 18) (tgt := 143) C (by decide +kernel) (by decide) (fun h1 => ?_) (fun h1 => ?_)
    · skip
      exact kk
    · skip
      exact absurd h1 (by simp (disch := omega) only [Int32.lt_iff_toInt_lt, Int32.le_iff_toInt_le, Int32.toInt_zero, nI_toInt, tq_m1, hI.hw]; omega)
  | succ n ih =>
    intro i a hi hI kk
    rw [show i + (n + 1) = (i + 1) + n by omega] at kk
    refine EV_blk (own := 11) C rfl [(.iload 4, 0, 0, 0, 0), (.aload_n 0, 0, 0, 0, 0), (.getfield 12, 11, 0, 368, 0), (.getfield 77, 8, 0, 193, 0), (.getfield 81, 3, 0, 98, 0)] (pc' := 125) (by decide +kernel) (lv' := [some (.ref 0), some (.long a.1), none, some (.int (nI y)), some (.int (nI i))]) (st' := [.int (a.2 2 0), .int (nI i)]) (I' := a.2) (J' := J) rfl ?_
    refine EV_icmp_ge (off := 18) (tgt := 143) C (by decide +kernel) (by decide) (fun h1 => ?_) (fun h1 => ?_)
    · skip
      exact absurd h1 (by simp (disch := omega) only [Int32.lt_iff_toInt_lt, Int32.le_iff_toInt_le, Int32.toInt_zero, nI_toInt, tq_m1, hI.hw]; omega)
    · skip
      refine EV_blk (own := 11) C rfl [(.aload_n 0, 0, 0, 0, 0), (.lload_n 1, 0, 0, 0, 0), (.iload 4, 0, 0, 0, 0), (.iload_n 3, 0, 0, 0, 0)] (pc' := 133) (by decide +kernel) (lv' := [some (.ref 0), some (.long a.1), none, some (.int (nI y)), some (.int (nI i))]) (st' := [.int (nI y), .int (nI i), .long a.1, .ref 0]) (I' := a.2) (J' := J) rfl ?_
      refine EV_cV (own := 11) (idx := 306) (μ' := mX11_mixCell) (b := 0) (cb := 11) (av := [.long a.1, .int (nI i), .int (nI y)]) (rest := []) C hR rfl (Or.inl ⟨867, by decide⟩) kX11_mixCell sX11_mixCell (c_X11_mixCell g rest a.2 J a.1 i y w h o c L hI (by omega) (by omega)) rfl rfl (by decide +kernel) rfl (by decide) (Nat.le_of_ble_eq_true rfl) rfl ⟨Nat.zero_le _, Nat.zero_le _⟩ ?_
      refine EV_blk (own := 11) C rfl [(.lstore_n 1, 0, 0, 0, 0), (.iinc 4 1, 0, 0, 0, (nI 1)), (.goto (-27), 0, 0, 0, 0)] (pc' := 113) (by decide +kernel) (lv' := [some (.ref 0), some (.long (r_X11_mixCell a.2 a.1 i y w h o c L)), none, some (.int (nI y)), some (.int ((nI i) + (nI 1)))]) (st' := []) (I' := (I_X11_mixCell a.2 a.1 i y w h o c L)) (J' := J) rfl ?_
      rw [show ((nI i) + (nI 1)) = (nI (i + 1)) from by simp (disch := omega) only [nI_add, tq_mul] <;> exact congrArg nI (by omega)]
      rw [tq_its, show (f_dg3 y w h o c L) i a = ((r_X11_mixCell a.2 a.1 i y w h o c L), (I_X11_mixCell a.2 a.1 i y w h o c L)) from by simp only [f_dg3, if_neg h1]] at kk
      have ihx := ih (i + 1) ((r_X11_mixCell a.2 a.1 i y w h o c L), (I_X11_mixCell a.2 a.1 i y w h o c L)) (by omega)
      dsimp only at ihx
      exact ihx (tq_ok.mixCell hI _ i y) kk
theorem tq_ok.dg3 {a : Int64 × tq_I} {y w h o c L : Nat} (k : tq_ok a.2 w h o c L) (n i : Nat) : tq_ok (tq_it (f_dg3 y w h o c L) n i a).2 w h o c L := tq_itP (fun b => tq_ok b.2 w h o c L) (fun i b hb => by simp only [f_dg3]; exact tq_ok.mixCell hb _ i y) n i a k
def f_dg4 (w h o c L : Nat) (i : Nat) (a : Int64 × tq_I) : Int64 × tq_I := ((tq_it (f_dg3 i w h o c L) w 0 (a.1, a.2)).1, (tq_it (f_dg3 i w h o c L) w 0 (a.1, a.2)).2)
set_option maxRecDepth 20000 in
theorem lp_dg4 {g : tq_G} {rest : List tq_S} {x0 : tq_X} (C : tq_C g mX11_digest x0) (hR : tq_ht x0 8 0 0) (J : Int64) (w h o c L : Nat) (hw10 : w ≤ 10) (hh10 : h ≤ 10) : ∀ (n i : Nat) (a : Int64 × tq_I), i + n = h → tq_ok a.2 w h o c L → EV g mX11_digest x0 0 0 149 [some (.ref 0), some (.long ((tq_it (f_dg4 w h o c L) n i a).1)), none, some (.int (nI (i + n))), none] [] (tq_SC ++ rest) tq_RR ((tq_it (f_dg4 w h o c L) n i a).2) J → EV g mX11_digest x0 0 0 96 [some (.ref 0), some (.long a.1), none, some (.int (nI i)), none] [] (tq_SC ++ rest) tq_RR a.2 J := by
  intro n
  induction n with
  | zero =>
    intro i a hi hI kk
    rw [Nat.add_zero] at kk
    refine EV_blk (own := 11) C rfl [(.iload_n 3, 0, 0, 0, 0), (.aload_n 0, 0, 0, 0, 0), (.getfield 12, 11, 0, 368, 0), (.getfield 77, 8, 0, 193, 0), (.getfield 87, 3, 1, 102, 0)] (pc' := 107) (by decide +kernel) (lv' := [some (.ref 0), some (.long a.1), none, some (.int (nI i)), none]) (st' := [.int (a.2 2 1), .int (nI i)]) (I' := a.2) (J' := J) rfl ?_
    refine EV_icmp_ge (off := 42) (tgt := 149) C (by decide +kernel) (by decide) (fun h1 => ?_) (fun h1 => ?_)
    · skip
      exact kk
    · skip
      exact absurd h1 (by simp (disch := omega) only [Int32.lt_iff_toInt_lt, Int32.le_iff_toInt_le, Int32.toInt_zero, nI_toInt, tq_m1, hI.hh]; omega)
  | succ n ih =>
    intro i a hi hI kk
    rw [show i + (n + 1) = (i + 1) + n by omega] at kk
    refine EV_blk (own := 11) C rfl [(.iload_n 3, 0, 0, 0, 0), (.aload_n 0, 0, 0, 0, 0), (.getfield 12, 11, 0, 368, 0), (.getfield 77, 8, 0, 193, 0), (.getfield 87, 3, 1, 102, 0)] (pc' := 107) (by decide +kernel) (lv' := [some (.ref 0), some (.long a.1), none, some (.int (nI i)), none]) (st' := [.int (a.2 2 1), .int (nI i)]) (I' := a.2) (J' := J) rfl ?_
    refine EV_icmp_ge (off := 42) (tgt := 149) C (by decide +kernel) (by decide) (fun h1 => ?_) (fun h1 => ?_)
    · skip
      exact absurd h1 (by simp (disch := omega) only [Int32.lt_iff_toInt_lt, Int32.le_iff_toInt_le, Int32.toInt_zero, nI_toInt, tq_m1, hI.hh]; omega)
    · skip
      refine EV_blk (own := 11) C rfl [(.iconst 0, 0, 0, 0, (nI 0)), (.istore 4, 0, 0, 0, 0)] (pc' := 113) (by decide +kernel) (lv' := [some (.ref 0), some (.long a.1), none, some (.int (nI i)), some (.int (nI 0))]) (st' := []) (I' := a.2) (J' := J) rfl ?_
      refine lp_dg3 C hR J i w h o c L hw10 (by omega) w 0 (a.1, a.2) (by omega) hI ?_
      refine EV_blk (own := 11) C rfl [(.iinc 3 1, 0, 0, 0, (nI 1)), (.goto (-50), 0, 0, 0, 0)] (pc' := 96) (by decide +kernel) (lv' := [some (.ref 0), some (.long ((tq_it (f_dg3 i w h o c L) w 0 (a.1, a.2)).1)), none, some (.int ((nI i) + (nI 1))), some (.int (nI ((0 + w))))]) (st' := []) (I' := (tq_it (f_dg3 i w h o c L) w 0 (a.1, a.2)).2) (J' := J) rfl ?_
      refine EV_fg (lv' := [some (.ref 0), some (.long ((tq_it (f_dg3 i w h o c L) w 0 (a.1, a.2)).1)), none, some (.int ((nI i) + (nI 1))), none]) ⟨rfl, rfl, rfl, trivial⟩ ?_
      rw [show ((nI i) + (nI 1)) = (nI (i + 1)) from by simp (disch := omega) only [nI_add, tq_mul] <;> exact congrArg nI (by omega)]
      rw [tq_its, show (f_dg4 w h o c L) i a = ((tq_it (f_dg3 i w h o c L) w 0 (a.1, a.2)).1, (tq_it (f_dg3 i w h o c L) w 0 (a.1, a.2)).2) from by simp only [f_dg4, if_neg h1]] at kk
      exact ih (i + 1) ((tq_it (f_dg3 i w h o c L) w 0 (a.1, a.2)).1, (tq_it (f_dg3 i w h o c L) w 0 (a.1, a.2)).2) (by omega) (tq_ok.dg3 (a := (a.1, a.2)) hI _ _) kk
theorem tq_ok.dg4 {a : Int64 × tq_I} {w h o c L : Nat} (k : tq_ok a.2 w h o c L) (n i : Nat) : tq_ok (tq_it (f_dg4 w h o c L) n i a).2 w h o c L := tq_itP (fun b => tq_ok b.2 w h o c L) (fun i b hb => by simp only [f_dg4]; exact tq_ok.dg3 (a := (b.1, b.2)) hb _ _) n i a k
def r_X11_digest (I : tq_I)  (w h o c L : Nat) : Int64 := (((31 : Int64) * ((tq_it (f_dg4 w h o c L) h 0 ((tq_it (f_dg2 I w h) (h + 1) 0 (((31 : Int64) * (((31 : Int64) * (17 : Int64)) + ((I 2 0)).toInt64)) + ((I 2 1)).toInt64)), I)).1)) + ((r_X11_touched ((tq_it (f_dg4 w h o c L) h 0 ((tq_it (f_dg2 I w h) (h + 1) 0 (((31 : Int64) * (((31 : Int64) * (17 : Int64)) + ((I 2 0)).toInt64)) + ((I 2 1)).toInt64)), I)).2) w h)).toInt64)
def I_X11_digest (I : tq_I)  (w h o c L : Nat) : tq_I := ((tq_it (f_dg4 w h o c L) h 0 ((tq_it (f_dg2 I w h) (h + 1) 0 (((31 : Int64) * (((31 : Int64) * (17 : Int64)) + ((I 2 0)).toInt64)) + ((I 2 1)).toInt64)), I)).2)
set_option maxRecDepth 20000 in
theorem c_X11_digest (g : tq_G) (rest : List tq_S) (I : tq_I) (J : Int64)  (w h o c L : Nat) (k : tq_ok I w h o c L)  : CT g mX11_digest 8 0 0 [.ref 0] (tq_SC ++ rest) tq_RR I J (tq_ret (tq_SC ++ rest) tq_RR (some (.long (r_X11_digest I w h o c L))) (I_X11_digest I w h o c L) J) := by
  refine CT.ret kX11_digest (Nat.le_of_ble_eq_true rfl) (fun x0 C hR hZ => ?_)
  refine EV_en (lv' := [some (.ref 0), none, none, none, none]) 4 rfl ?_
  refine EV_ldc2 (own := 11) (idx := 300) (v := 17) (pl := 862) C rfl (by decide) (by decide +kernel) ?_
  refine EV_blk (own := 11) C rfl [(.aload_n 0, 0, 0, 0, 0), (.getfield 12, 11, 0, 368, 0), (.getfield 77, 8, 0, 193, 0), (.getfield 81, 3, 0, 98, 0)] (pc' := 13) (by decide +kernel) (lv' := [some (.ref 0), none, none, none, none]) (st' := [.int (I 2 0), .long (17 : Int64)]) (I' := I) (J' := J) rfl ?_
  refine EV_cS (own := 11) (idx := 302) (μ' := mX11_mix) (av := [.long (17 : Int64), .int (I 2 0)]) (rest := []) C hR rfl (Or.inl ⟨863, by decide⟩) kX11_mix sX11_mix (c_X11_mix g rest I J (17 : Int64) (I 2 0) ) (by decide +kernel) rfl (by decide) (Nat.le_of_ble_eq_true rfl) rfl ⟨Nat.zero_le _, Nat.zero_le _⟩ ?_
  refine EV_blk (own := 11) C rfl [(.aload_n 0, 0, 0, 0, 0), (.getfield 12, 11, 0, 368, 0), (.getfield 77, 8, 0, 193, 0), (.getfield 87, 3, 1, 102, 0)] (pc' := 26) (by decide +kernel) (lv' := [some (.ref 0), none, none, none, none]) (st' := [.int (I 2 1), .long (((31 : Int64) * (17 : Int64)) + ((I 2 0)).toInt64)]) (I' := I) (J' := J) rfl ?_
  refine EV_cS (own := 11) (idx := 302) (μ' := mX11_mix) (av := [.long (((31 : Int64) * (17 : Int64)) + ((I 2 0)).toInt64), .int (I 2 1)]) (rest := []) C hR rfl (Or.inl ⟨863, by decide⟩) kX11_mix sX11_mix (c_X11_mix g rest I J (((31 : Int64) * (17 : Int64)) + ((I 2 0)).toInt64) (I 2 1) ) (by decide +kernel) rfl (by decide) (Nat.le_of_ble_eq_true rfl) rfl ⟨Nat.zero_le _, Nat.zero_le _⟩ ?_
  refine EV_blk (own := 11) C rfl [(.lstore_n 1, 0, 0, 0, 0), (.iconst 0, 0, 0, 0, (nI 0)), (.istore_n 3, 0, 0, 0, 0)] (pc' := 32) (by decide +kernel) (lv' := [some (.ref 0), some (.long (((31 : Int64) * (((31 : Int64) * (17 : Int64)) + ((I 2 0)).toInt64)) + ((I 2 1)).toInt64)), none, some (.int (nI 0)), none]) (st' := []) (I' := I) (J' := J) rfl ?_
  refine lp_dg2 C hR I J w h k.hw k.hh k.w10 k.h10 (h + 1) 0 (((31 : Int64) * (((31 : Int64) * (17 : Int64)) + ((I 2 0)).toInt64)) + ((I 2 1)).toInt64) (by omega) ?_
  refine EV_blk (own := 11) C rfl [(.iconst 0, 0, 0, 0, (nI 0)), (.istore_n 3, 0, 0, 0, 0)] (pc' := 96) (by decide +kernel) (lv' := [some (.ref 0), some (.long (tq_it (f_dg2 I w h) (h + 1) 0 (((31 : Int64) * (((31 : Int64) * (17 : Int64)) + ((I 2 0)).toInt64)) + ((I 2 1)).toInt64))), none, some (.int (nI 0)), none]) (st' := []) (I' := I) (J' := J) rfl ?_
  refine lp_dg4 C hR J w h o c L k.w10 k.h10 h 0 ((tq_it (f_dg2 I w h) (h + 1) 0 (((31 : Int64) * (((31 : Int64) * (17 : Int64)) + ((I 2 0)).toInt64)) + ((I 2 1)).toInt64)), I) (by omega) k ?_
  refine EV_blk (own := 11) C rfl [(.lload_n 1, 0, 0, 0, 0), (.aload_n 0, 0, 0, 0, 0)] (pc' := 151) (by decide +kernel) (lv' := [some (.ref 0), some (.long ((tq_it (f_dg4 w h o c L) h 0 ((tq_it (f_dg2 I w h) (h + 1) 0 (((31 : Int64) * (((31 : Int64) * (17 : Int64)) + ((I 2 0)).toInt64)) + ((I 2 1)).toInt64)), I)).1)), none, some (.int (nI ((0 + h)))), none]) (st' := [.ref 0, .long ((tq_it (f_dg4 w h o c L) h 0 ((tq_it (f_dg2 I w h) (h + 1) 0 (((31 : Int64) * (((31 : Int64) * (17 : Int64)) + ((I 2 0)).toInt64)) + ((I 2 1)).toInt64)), I)).1)]) (I' := (tq_it (f_dg4 w h o c L) h 0 ((tq_it (f_dg2 I w h) (h + 1) 0 (((31 : Int64) * (((31 : Int64) * (17 : Int64)) + ((I 2 0)).toInt64)) + ((I 2 1)).toInt64)), I)).2) (J' := J) rfl ?_
  have kd : tq_ok ((tq_it (f_dg4 w h o c L) h 0 ((tq_it (f_dg2 I w h) (h + 1) 0 (((31 : Int64) * (((31 : Int64) * (17 : Int64)) + ((I 2 0)).toInt64)) + ((I 2 1)).toInt64)), I)).2) w h o c L := tq_ok.dg4 (a := (_, I)) k _ _
  refine EV_cV (own := 11) (idx := 310) (μ' := mX11_touched) (b := 0) (cb := 11) (av := []) (rest := [.long ((tq_it (f_dg4 w h o c L) h 0 ((tq_it (f_dg2 I w h) (h + 1) 0 (((31 : Int64) * (((31 : Int64) * (17 : Int64)) + ((I 2 0)).toInt64)) + ((I 2 1)).toInt64)), I)).1)]) C hR rfl (Or.inl ⟨872, by decide⟩) kX11_touched sX11_touched (c_X11_touched g rest ((tq_it (f_dg4 w h o c L) h 0 ((tq_it (f_dg2 I w h) (h + 1) 0 (((31 : Int64) * (((31 : Int64) * (17 : Int64)) + ((I 2 0)).toInt64)) + ((I 2 1)).toInt64)), I)).2) J w h kd.hw kd.hh kd.w10 kd.h10) rfl rfl (by decide +kernel) rfl (by decide) (Nat.le_of_ble_eq_true rfl) rfl ⟨Nat.zero_le _, Nat.zero_le _⟩ ?_
  refine EV_cS (own := 11) (idx := 302) (μ' := mX11_mix) (av := [.long ((tq_it (f_dg4 w h o c L) h 0 ((tq_it (f_dg2 I w h) (h + 1) 0 (((31 : Int64) * (((31 : Int64) * (17 : Int64)) + ((I 2 0)).toInt64)) + ((I 2 1)).toInt64)), I)).1), .int (r_X11_touched ((tq_it (f_dg4 w h o c L) h 0 ((tq_it (f_dg2 I w h) (h + 1) 0 (((31 : Int64) * (((31 : Int64) * (17 : Int64)) + ((I 2 0)).toInt64)) + ((I 2 1)).toInt64)), I)).2) w h)]) (rest := []) C hR rfl (Or.inl ⟨863, by decide⟩) kX11_mix sX11_mix (c_X11_mix g rest ((tq_it (f_dg4 w h o c L) h 0 ((tq_it (f_dg2 I w h) (h + 1) 0 (((31 : Int64) * (((31 : Int64) * (17 : Int64)) + ((I 2 0)).toInt64)) + ((I 2 1)).toInt64)), I)).2) J ((tq_it (f_dg4 w h o c L) h 0 ((tq_it (f_dg2 I w h) (h + 1) 0 (((31 : Int64) * (((31 : Int64) * (17 : Int64)) + ((I 2 0)).toInt64)) + ((I 2 1)).toInt64)), I)).1) (r_X11_touched ((tq_it (f_dg4 w h o c L) h 0 ((tq_it (f_dg2 I w h) (h + 1) 0 (((31 : Int64) * (((31 : Int64) * (17 : Int64)) + ((I 2 0)).toInt64)) + ((I 2 1)).toInt64)), I)).2) w h) ) (by decide +kernel) rfl (by decide) (Nat.le_of_ble_eq_true rfl) rfl ⟨Nat.zero_le _, Nat.zero_le _⟩ ?_
  exact EV_lret C hZ rfl (by decide +kernel) (Nat.le_refl _) (Nat.le_refl _) ⟨tq_somel (by simp only [r_X11_digest]), rfl, rfl, by simp only [I_X11_digest], rfl⟩
