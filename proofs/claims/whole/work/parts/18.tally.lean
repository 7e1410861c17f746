/-! Tally: 107 (count 3), codes 108, sums 109, places 110 -/
theorem tq_pig : ∀ (m n : Nat) (f : Nat → Nat), (∀ i, i < n → f i < m) → (∀ i j, i < n → j < n → f i = f j → i = j) → n ≤ m
  | 0, n, f, h, _ => by
    cases n with
    | zero => exact Nat.le_refl 0
    | succ n => exact absurd (h 0 (Nat.succ_pos n)) (Nat.not_lt_zero _)
  | m + 1, n, f, h, inj => by
    cases n with
    | zero => exact Nat.zero_le _
    | succ n =>
      have key := tq_pig m n (fun i => if f i = m then f n else f i) (fun i hi => by
        by_cases hm : f i = m
        · rw [if_pos hm]
          have h1 : f n ≠ m := fun e => by
            have := inj i n (by omega) (by omega) (hm.trans e.symm)
            omega
          have h2 := h n (by omega)
          omega
        · rw [if_neg hm]
          have := h i (by omega)
          omega) (fun i j hi hj e => by
        by_cases h1 : f i = m <;> by_cases h2 : f j = m
        · exact inj i j (by omega) (by omega) (h1.trans h2.symm)
        · rw [if_pos h1, if_neg h2] at e
          have := inj n j (by omega) (by omega) e
          omega
        · rw [if_neg h1, if_pos h2] at e
          have := inj i n (by omega) (by omega) e
          omega
        · rw [if_neg h1, if_neg h2] at e
          exact inj i j (by omega) (by omega) e)
      omega
theorem tq_NI {v : Int32} (h : 0 ≤ v.toInt) : v.toInt = (tq_N v : Int) := by unfold tq_N; omega
theorem tq_Nlt {v : Int32} {m : Nat} (h : 0 ≤ v.toInt) (h2 : v.toInt < (m : Int)) : tq_N v < m := by unfold tq_N; omega
/-- the tally so far: the codes are met once each, places says where -/
def tq_tl (I : tq_I) : Prop := 0 ≤ (I 107 3).toInt ∧ (I 107 3).toInt ≤ 384 ∧ (∀ k, k < tq_N (I 107 3) → (0 ≤ (I 108 k).toInt ∧ (I 108 k).toInt ≤ 383) ∧ I 110 (tq_N (I 108 k)) = nI k) ∧ ∀ c, c < 384 → I 110 c = -1 ∨ ∃ k, k < tq_N (I 107 3) ∧ I 110 c = nI k ∧ tq_N (I 108 k) = c
theorem tq_tl_lt {I : tq_I} (h : tq_tl I) {c : Nat} (hc : c < 384) (hp : I 110 c = -1) : (I 107 3).toInt < 384 := by
  obtain ⟨h1, h2, h3, h4⟩ := h
  have hn : tq_N (I 107 3) ≤ 383 := by
    have key := tq_pig 384 (tq_N (I 107 3) + 1) (fun k => if k = tq_N (I 107 3) then c else tq_N (I 108 k)) (fun k hk => by
      by_cases e : k = tq_N (I 107 3)
      · rw [if_pos e]; exact hc
      · rw [if_neg e]
        have := (h3 k (by omega)).1
        unfold tq_N
        omega) (fun i j hi hj e => by
      have neg : ∀ k, k < tq_N (I 107 3) → tq_N (I 108 k) ≠ c := fun k hk e => by
        have h5 := (h3 k hk).2
        rw [e, hp] at h5
        have h6 := congrArg Int32.toInt h5
        have h7 : tq_N (I 107 3) ≤ 384 := by unfold tq_N; omega
        rw [nI_toInt (by omega)] at h6
        have h8 : (-1 : Int32).toInt = -1 := by decide
        omega
      by_cases e1 : i = tq_N (I 107 3) <;> by_cases e2 : j = tq_N (I 107 3)
      · omega
      · rw [if_pos e1, if_neg e2] at e
        exact absurd e.symm (neg j (by omega))
      · rw [if_neg e1, if_pos e2] at e
        exact absurd e (neg i (by omega))
      · rw [if_neg e1, if_neg e2] at e
        have h5 := (h3 i (by omega)).2
        have h6 := (h3 j (by omega)).2
        rw [e, h6] at h5
        have h7 : tq_N (I 107 3) ≤ 384 := by unfold tq_N; omega
        exact ((nI_eq (by omega) (by omega)).mp h5).symm)
    omega
  unfold tq_N at hn
  omega
theorem tq_tl_in {I : tq_I} (h : tq_tl I) {c : Nat} (hc : c < 384) (hp : ¬ I 110 c = -1) : 0 ≤ (I 110 c).toInt ∧ (I 110 c).toInt < 384 := by
  obtain ⟨h1, h2, h3, h4⟩ := h
  rcases h4 c hc with e | ⟨k, hk, e, -⟩
  · exact absurd e hp
  · have h7 : tq_N (I 107 3) ≤ 384 := by unfold tq_N; omega
    rw [e, nI_toInt (by omega)]
    omega
def I_X9_add (I : tq_I) (c : Int32) : tq_I := (if (I 110 (tq_N c)) = (-1) then (tq_u (tq_u (tq_u (tq_u (tq_u I 110 (tq_N c) (I 107 3)) 108 (tq_N (I 107 3)) c) 109 (tq_N (I 107 3)) (nI 0)) 107 3 (((tq_u (tq_u (tq_u I 110 (tq_N c) (I 107 3)) 108 (tq_N (I 107 3)) c) 109 (tq_N (I 107 3)) (nI 0)) 107 3) + (nI 1))) 109 (tq_N (I 107 3)) (((tq_u (tq_u (tq_u (tq_u I 110 (tq_N c) (I 107 3)) 108 (tq_N (I 107 3)) c) 109 (tq_N (I 107 3)) (nI 0)) 107 3 (((tq_u (tq_u (tq_u I 110 (tq_N c) (I 107 3)) 108 (tq_N (I 107 3)) c) 109 (tq_N (I 107 3)) (nI 0)) 107 3) + (nI 1))) 109 (tq_N (I 107 3))) + (nI 1))) else (tq_u I 109 (tq_N (I 110 (tq_N c))) ((I 109 (tq_N (I 110 (tq_N c)))) + (nI 1))))
set_option maxRecDepth 20000 in
theorem c_X9_add (g : tq_G) (rest : List tq_S) (I : tq_I) (J : Int64) (c : Int32) (hc0 : 0 ≤ c.toInt) (hc1 : c.toInt ≤ 383) (hI : tq_tl I) : CT g mX9_add 0 0 0 [.ref 107, .int c] (tq_SC ++ rest) tq_RR I J (tq_ret (tq_SC ++ rest) tq_RR none (I_X9_add I c) J) := by
  refine CT.ret kX9_add (Nat.le_of_ble_eq_true rfl) (fun x0 C hR hZ => ?_)
  refine EV_en (lv' := [some (.ref 107), some (.int c)]) 0 rfl ?_
  refine EV_blk (own := 9) C rfl [(.aload_n 0, 0, 0, 0, 0), (.getfield 18, 9, 2, 291, 0), (.iload_n 1, 0, 0, 0, 0)] (pc' := 5) (by decide +kernel) (lv' := [some (.ref 107), some (.int c)]) (st' := [.int c, .ref 110]) (I' := I) (J' := J) rfl ?_
  refine EV_iald (j := (tq_N c)) C (by decide +kernel) rfl (by unfold tq_N; omega) (by unfold tq_N; omega) ?_
  refine EV_blk (own := 9) C rfl [(.iconst (-1), 0, 0, 0, (-1))] (pc' := 7) (by decide +kernel) (lv' := [some (.ref 107), some (.int c)]) (st' := [.int (-1), .int (I 110 (tq_N c))]) (I' := I) (J' := J) rfl ?_
  refine EV_icmp_ne (off := 43) (tgt := 50) C (by decide +kernel) (by decide) (fun h1 => ?_) (fun h1 => ?_)
  · skip
    refine EV_blk (own := 9) C rfl [(.aload_n 0, 0, 0, 0, 0), (.getfield 15, 9, 1, 289, 0), (.aload_n 0, 0, 0, 0, 0), (.getfield 18, 9, 2, 291, 0), (.iload_n 1, 0, 0, 0, 0)] (pc' := 59) (by decide +kernel) (lv' := [some (.ref 107), some (.int c)]) (st' := [.int c, .ref 110, .ref 109]) (I' := I) (J' := J) rfl ?_
    refine EV_iald (j := (tq_N c)) C (by decide +kernel) rfl (by unfold tq_N; omega) (by unfold tq_N; omega) ?_
    have hl := tq_tl_in hI (by unfold tq_N; omega) h1
    refine EV_blk (own := 9) C rfl [(.dup2, 0, 0, 0, 0)] (pc' := 61) (by decide +kernel) (lv' := [some (.ref 107), some (.int c)]) (st' := [.int (I 110 (tq_N c)), .ref 109, .int (I 110 (tq_N c)), .ref 109]) (I' := I) (J' := J) rfl ?_
    refine EV_iald (j := (tq_N (I 110 (tq_N c)))) C (by decide +kernel) rfl (tq_NI hl.1) (tq_Nlt hl.1 hl.2) ?_
    refine EV_blk (own := 9) C rfl [(.iconst 1, 0, 0, 0, (nI 1)), (.iadd, 0, 0, 0, 0)] (pc' := 64) (by decide +kernel) (lv' := [some (.ref 107), some (.int c)]) (st' := [.int ((I 109 (tq_N (I 110 (tq_N c)))) + (nI 1)), .int (I 110 (tq_N c)), .ref 109]) (I' := I) (J' := J) rfl ?_
    refine EV_iast (j := (tq_N (I 110 (tq_N c)))) C (by decide +kernel) rfl (tq_NI hl.1) (tq_Nlt hl.1 hl.2) ?_
    exact EV_vret C hZ rfl (by decide +kernel) (Nat.le_refl _) (Nat.le_refl _) ⟨rfl, rfl, rfl, by simp only [I_X9_add, if_neg h1], rfl⟩
  · skip
    refine EV_blk (own := 9) C rfl [(.aload_n 0, 0, 0, 0, 0), (.getfield 18, 9, 2, 291, 0), (.iload_n 1, 0, 0, 0, 0), (.aload_n 0, 0, 0, 0, 0), (.getfield 21, 9, 3, 292, 0)] (pc' := 19) (by decide +kernel) (lv' := [some (.ref 107), some (.int c)]) (st' := [.int (I 107 3), .int c, .ref 110]) (I' := I) (J' := J) rfl ?_
    have hl := tq_tl_lt hI (by unfold tq_N; omega) h1
    refine EV_iast (j := (tq_N c)) C (by decide +kernel) rfl (by unfold tq_N; omega) (by unfold tq_N; omega) ?_
    refine EV_blk (own := 9) C rfl [(.aload_n 0, 0, 0, 0, 0), (.getfield 9, 9, 0, 287, 0), (.aload_n 0, 0, 0, 0, 0), (.getfield 21, 9, 3, 292, 0), (.iload_n 1, 0, 0, 0, 0)] (pc' := 29) (by decide +kernel) (lv' := [some (.ref 107), some (.int c)]) (st' := [.int c, .int ((tq_u I 110 (tq_N c) (I 107 3)) 107 3), .ref 108]) (I' := (tq_u I 110 (tq_N c) (I 107 3))) (J' := J) rfl ?_
    refine EV_iast (j := (tq_N (I 107 3))) C (by decide +kernel) rfl (show (I 107 3).toInt = _ by unfold tq_N; have := hI.1; omega) (by unfold tq_N; omega) ?_
    refine EV_blk (own := 9) C rfl [(.aload_n 0, 0, 0, 0, 0), (.getfield 15, 9, 1, 289, 0), (.aload_n 0, 0, 0, 0, 0), (.getfield 21, 9, 3, 292, 0), (.iconst 0, 0, 0, 0, (nI 0))] (pc' := 39) (by decide +kernel) (lv' := [some (.ref 107), some (.int c)]) (st' := [.int (nI 0), .int ((tq_u (tq_u I 110 (tq_N c) (I 107 3)) 108 (tq_N (I 107 3)) c) 107 3), .ref 109]) (I' := (tq_u (tq_u I 110 (tq_N c) (I 107 3)) 108 (tq_N (I 107 3)) c)) (J' := J) rfl ?_
    refine EV_iast (j := (tq_N (I 107 3))) C (by decide +kernel) rfl (show (I 107 3).toInt = _ by unfold tq_N; have := hI.1; omega) (by unfold tq_N; omega) ?_
    refine EV_blk (own := 9) C rfl [(.aload_n 0, 0, 0, 0, 0), (.dup, 0, 0, 0, 0), (.getfield 21, 9, 3, 292, 0), (.iconst 1, 0, 0, 0, (nI 1)), (.iadd, 0, 0, 0, 0), (.putfield 21, 9, 3, 292, 0), (.aload_n 0, 0, 0, 0, 0), (.getfield 15, 9, 1, 289, 0), (.aload_n 0, 0, 0, 0, 0), (.getfield 18, 9, 2, 291, 0), (.iload_n 1, 0, 0, 0, 0)] (pc' := 59) (by decide +kernel) (lv' := [some (.ref 107), some (.int c)]) (st' := [.int c, .ref 110, .ref 109]) (I' := (tq_u (tq_u (tq_u (tq_u I 110 (tq_N c) (I 107 3)) 108 (tq_N (I 107 3)) c) 109 (tq_N (I 107 3)) (nI 0)) 107 3 (((tq_u (tq_u (tq_u I 110 (tq_N c) (I 107 3)) 108 (tq_N (I 107 3)) c) 109 (tq_N (I 107 3)) (nI 0)) 107 3) + (nI 1)))) (J' := J) rfl ?_
    refine EV_iald (j := (tq_N c)) C (by decide +kernel) rfl (by unfold tq_N; omega) (by unfold tq_N; omega) ?_
    refine EV_ste (st' := [.int (I 107 3), .ref 109]) (by simp [tq_u]) ?_
    have hl := tq_tl_lt hI (by unfold tq_N; omega) h1
    refine EV_blk (own := 9) C rfl [(.dup2, 0, 0, 0, 0)] (pc' := 61) (by decide +kernel) (lv' := [some (.ref 107), some (.int c)]) (st' := [.int (I 107 3), .ref 109, .int (I 107 3), .ref 109]) (I' := (tq_u (tq_u (tq_u (tq_u I 110 (tq_N c) (I 107 3)) 108 (tq_N (I 107 3)) c) 109 (tq_N (I 107 3)) (nI 0)) 107 3 (((tq_u (tq_u (tq_u I 110 (tq_N c) (I 107 3)) 108 (tq_N (I 107 3)) c) 109 (tq_N (I 107 3)) (nI 0)) 107 3) + (nI 1)))) (J' := J) rfl ?_
    refine EV_iald (j := (tq_N (I 107 3))) C (by decide +kernel) rfl (by unfold tq_N; have := hI.1; omega) (by unfold tq_N; omega) ?_
    refine EV_blk (own := 9) C rfl [(.iconst 1, 0, 0, 0, (nI 1)), (.iadd, 0, 0, 0, 0)] (pc' := 64) (by decide +kernel) (lv' := [some (.ref 107), some (.int c)]) (st' := [.int (((tq_u (tq_u (tq_u (tq_u I 110 (tq_N c) (I 107 3)) 108 (tq_N (I 107 3)) c) 109 (tq_N (I 107 3)) (nI 0)) 107 3 (((tq_u (tq_u (tq_u I 110 (tq_N c) (I 107 3)) 108 (tq_N (I 107 3)) c) 109 (tq_N (I 107 3)) (nI 0)) 107 3) + (nI 1))) 109 (tq_N (I 107 3))) + (nI 1)), .int (I 107 3), .ref 109]) (I' := (tq_u (tq_u (tq_u (tq_u I 110 (tq_N c) (I 107 3)) 108 (tq_N (I 107 3)) c) 109 (tq_N (I 107 3)) (nI 0)) 107 3 (((tq_u (tq_u (tq_u I 110 (tq_N c) (I 107 3)) 108 (tq_N (I 107 3)) c) 109 (tq_N (I 107 3)) (nI 0)) 107 3) + (nI 1)))) (J' := J) rfl ?_
    refine EV_iast (j := (tq_N (I 107 3))) C (by decide +kernel) rfl (by unfold tq_N; have := hI.1; omega) (by unfold tq_N; omega) ?_
    exact EV_vret C hZ rfl (by decide +kernel) (Nat.le_refl _) (Nat.le_refl _) ⟨rfl, rfl, rfl, by simp only [I_X9_add, if_pos h1], rfl⟩
theorem fr_X9_add (I : tq_I) (c : Int32) {cz : Nat} (hc : cz ≠ 107 ∧ cz ≠ 108 ∧ cz ≠ 109 ∧ cz ≠ 110) (jz : Nat) : I_X9_add I c cz jz = I cz jz := by
  obtain ⟨hc0, hc1, hc2, hc3⟩ := hc
  simp only [I_X9_add]
  (repeat' split) <;> simp (disch := first | assumption | (simp only [ne_eq] at *; simp [*])) [tq_u, tq_cp, hc0, hc1, hc2, hc3, fr_tb1, fr_tb2, fr_X8_touchBlock, fr_X8_touchAll, fr_X8_changeCorner, fr_X8_changePath, fr_cb1, fr_cb2, fr_X8_changeBlock, fr_wipe1, fr_X1_wipe, fr_sm1, fr_sm2, fr_X8_startMap, fr_X6_place, fr_mt1, fr_mt2, fr_X6_moveTo, fr_ch2, fr_X10_choose, fr_X1_take, fr_fgt1, fr_X5_forget, fr_X5_meet, fr_gat1, fr_X5_gather, fr_dl1, fr_dl2, fr_X7_drawLayers, fr_dp1, fr_X7_drawPieces, fr_dr1, fr_X7_draw]
theorem tq_tl_add {I : tq_I} {c : Int32} (h : tq_tl I) (hc0 : 0 ≤ c.toInt) (hc1 : c.toInt ≤ 383) : tq_tl (I_X9_add I c) := by
  have hcN : tq_N c < 384 := tq_Nlt hc0 (by omega)
  unfold I_X9_add
  split
  · rename_i hp
    have hl := tq_tl_lt h hcN hp
    obtain ⟨h1, h2, h3, h4⟩ := h
    obtain ⟨e1, e2⟩ := tq_incr (m := 384) h1 (by omega) (by decide)
    have hn := tq_nIN h1
    have hN : tq_N (I 107 3) < 384 := tq_Nlt h1 (by omega)
    generalize hq : tq_N (I 107 3) = q at hN hn e2 h3 h4 ⊢
    refine ⟨?_, ?_, fun k hk => ?_, fun d hd => ?_⟩
    · have : ∀ K : tq_I, tq_u (tq_u K 107 3 (I 107 3 + nI 1)) 109 q (nI 0 + nI 1) 107 3 = I 107 3 + nI 1 := fun K => by simp [tq_u]
      simp only [tq_u, and_self, if_true, Nat.reduceEqDiff, false_and, if_false] at this ⊢
      omega
    · simp only [tq_u, and_self, if_true, Nat.reduceEqDiff, false_and, if_false]
      omega
    · have hk1 : k < q + 1 := by
        simp only [tq_u, and_self, if_true, Nat.reduceEqDiff, false_and, if_false] at hk
        omega
      by_cases hkk : k = q
      · subst hkk
        simp only [tq_u, and_self, if_true, Nat.reduceEqDiff, false_and, if_false, true_and]
        exact ⟨⟨hc0, hc1⟩, hn⟩
      · have h5 := h3 k (by omega)
        have hne : tq_N (I 108 k) ≠ tq_N c := fun e => by
          have h6 := h5.2
          rw [e, hp] at h6
          have h7 := congrArg Int32.toInt h6
          rw [nI_toInt (by omega)] at h7
          have h8 : (-1 : Int32).toInt = -1 := by decide
          omega
        simp only [tq_u, and_self, if_true, Nat.reduceEqDiff, false_and, if_false, true_and, hkk, hne]
        exact h5
    · by_cases hd1 : d = tq_N c
      · subst hd1
        refine Or.inr ⟨q, ?_, ?_, ?_⟩
        · simp only [tq_u, and_self, if_true, Nat.reduceEqDiff, false_and, if_false]
          omega
        · simp only [tq_u, and_self, if_true, Nat.reduceEqDiff, false_and, if_false, true_and]
          exact hn
        · simp only [tq_u, and_self, if_true, Nat.reduceEqDiff, false_and, if_false, true_and]
      · rcases h4 d hd with e | ⟨k, hk, e3, e4⟩
        · left
          simp only [tq_u, Nat.reduceEqDiff, false_and, if_false, true_and, hd1]
          exact e
        · refine Or.inr ⟨k, ?_, ?_, ?_⟩
          · simp only [tq_u, and_self, if_true, Nat.reduceEqDiff, false_and, if_false]
            omega
          · simp only [tq_u, Nat.reduceEqDiff, false_and, if_false, true_and, hd1]
            exact e3
          · have hkk : ¬ k = q := by omega
            simp only [tq_u, Nat.reduceEqDiff, false_and, if_false, true_and, hkk]
            exact e4
  · obtain ⟨h1, h2, h3, h4⟩ := h
    exact ⟨h1, h2, h3, h4⟩
def tq_acP (cl p : Nat) (a : tq_I) : Prop := tq_tl a ∧ a 13 cl = nI p ∧ ∀ i, i < p → 0 ≤ (a 14 (cl * 7 + i)).toInt ∧ (a 14 (cl * 7 + i)).toInt ≤ 383
theorem tq_acP_add {cl p : Nat} {a : tq_I} {c : Int32} (h : tq_acP cl p a) (hc : 0 ≤ c.toInt ∧ c.toInt ≤ 383) : tq_acP cl p (I_X9_add a c) := by
  refine ⟨tq_tl_add h.1 hc.1 hc.2, by rw [fr_X9_add _ _ (by decide)]; exact h.2.1, fun i hi => ?_⟩
  rw [fr_X9_add _ _ (by decide)]
  exact h.2.2 i hi
def f_ac1 (cl p : Nat) (i : Nat) (a : tq_I) : tq_I := (I_X9_add a (a 14 (cl * 7 + i)))
set_option maxRecDepth 20000 in
theorem lp_ac1 {g : tq_G} {rest : List tq_S} {x0 : tq_X} (C : tq_C g mX9_addCell x0) (hR : tq_ht x0 1 0 0) (J : Int64) (cl p : Nat) (hcl : cl ≤ 99) (hp7 : p ≤ 7) : ∀ (n i : Nat) (a : tq_I), i + n = p → tq_acP cl p a → EV g mX9_addCell x0 0 0 28 [some (.ref 107), some (.ref 12), some (.int (nI cl)), some (.int (nI (i + n)))] [] (tq_SC ++ rest) tq_RR (tq_it (f_ac1 cl p) n i a) J → EV g mX9_addCell x0 0 0 2 [some (.ref 107), some (.ref 12), some (.int (nI cl)), some (.int (nI i))] [] (tq_SC ++ rest) tq_RR a J := by
  intro n
  induction n with
  | zero =>
    intro i a hi hI kk
    rw [Nat.add_zero] at kk
    refine EV_blk (own := 9) C rfl [(.iload_n 3, 0, 0, 0, 0), (.aload_n 1, 0, 0, 0, 0), (.getfield 51, 1, 0, 174, 0), (.iload_n 2, 0, 0, 0, 0)] (pc' := 8) (by decide +kernel) (lv' := [some (.ref 107), some (.ref 12), some (.int (nI cl)), some (.int (nI i))]) (st' := [.int (nI cl), .ref 13, .int (nI i)]) (I' := a) (J' := J) rfl ?_
    refine EV_iald (j := cl) C (by decide +kernel) rfl (nI_toInt (by omega)) (by omega) ?_
    refine EV_icmp_ge (off := 19) (tgt := 28) C (by decide +kernel) (by decide) (fun h1 => ?_) (fun h1 => ?_)
    · skip
      exact kk
    · skip
      exact absurd h1 (by simp (disch := omega) only [Int32.lt_iff_toInt_lt, Int32.le_iff_toInt_le, Int32.toInt_zero, nI_toInt, tq_m1, hI.2.1]; omega)
  | succ n ih =>
    intro i a hi hI kk
    rw [show i + (n + 1) = (i + 1) + n by omega] at kk
    refine EV_blk (own := 9) C rfl [(.iload_n 3, 0, 0, 0, 0), (.aload_n 1, 0, 0, 0, 0), (.getfield 51, 1, 0, 174, 0), (.iload_n 2, 0, 0, 0, 0)] (pc' := 8) (by decide +kernel) (lv' := [some (.ref 107), some (.ref 12), some (.int (nI cl)), some (.int (nI i))]) (st' := [.int (nI cl), .ref 13, .int (nI i)]) (I' := a) (J' := J) rfl ?_
    refine EV_iald (j := cl) C (by decide +kernel) rfl (nI_toInt (by omega)) (by omega) ?_
    refine EV_icmp_ge (off := 19) (tgt := 28) C (by decide +kernel) (by decide) (fun h1 => ?_) (fun h1 => ?_)
    · skip
      exact absurd h1 (by simp (disch := omega) only [Int32.lt_iff_toInt_lt, Int32.le_iff_toInt_le, Int32.toInt_zero, nI_toInt, tq_m1, hI.2.1]; omega)
    · skip
      refine EV_blk (own := 9) C rfl [(.aload_n 0, 0, 0, 0, 0), (.aload_n 1, 0, 0, 0, 0), (.iload_n 2, 0, 0, 0, 0), (.iload_n 3, 0, 0, 0, 0)] (pc' := 16) (by decide +kernel) (lv' := [some (.ref 107), some (.ref 12), some (.int (nI cl)), some (.int (nI i))]) (st' := [.int (nI i), .int (nI cl), .ref 12, .ref 107]) (I' := a) (J' := J) rfl ?_
      refine EV_cV (own := 9) (idx := 56) (μ' := mX1_codeAt) (b := 12) (cb := 1) (av := [.int (nI cl), .int (nI i)]) (rest := [.ref 107]) C hR rfl (Or.inl ⟨773, by decide⟩) kX1_codeAt sX1_codeAt (c_X1_codeAt g rest a J cl i (by omega) (by omega)) rfl rfl (by decide +kernel) rfl (by decide) (Nat.le_of_ble_eq_true rfl) rfl ⟨Nat.zero_le _, Nat.zero_le _⟩ ?_
      refine EV_cV (own := 9) (idx := 59) (μ' := mX9_add) (b := 107) (cb := 9) (av := [.int (a 14 (cl * 7 + i))]) (rest := []) C hR rfl (Or.inl ⟨774, by decide⟩) kX9_add sX9_add (c_X9_add g rest a J (a 14 (cl * 7 + i)) (hI.2.2 i (by omega)).1 (hI.2.2 i (by omega)).2 hI.1) rfl rfl (by decide +kernel) rfl (by decide) (Nat.le_of_ble_eq_true rfl) rfl ⟨Nat.zero_le _, Nat.zero_le _⟩ ?_
      refine EV_blk (own := 9) C rfl [(.iinc 3 1, 0, 0, 0, (nI 1)), (.goto (-23), 0, 0, 0, 0)] (pc' := 2) (by decide +kernel) (lv' := [some (.ref 107), some (.ref 12), some (.int (nI cl)), some (.int ((nI i) + (nI 1)))]) (st' := []) (I' := (I_X9_add a (a 14 (cl * 7 + i)))) (J' := J) rfl ?_
      rw [show ((nI i) + (nI 1)) = (nI (i + 1)) from by simp (disch := omega) only [nI_add, tq_mul] <;> exact congrArg nI (by omega)]
      rw [tq_its, show (f_ac1 cl p) i a = (I_X9_add a (a 14 (cl * 7 + i))) from by simp only [f_ac1, if_neg h1]] at kk
      exact ih (i + 1) (I_X9_add a (a 14 (cl * 7 + i))) (by omega) (tq_acP_add hI (hI.2.2 i (by omega))) kk
theorem fr_ac1 (cl p : Nat) {cz : Nat} (hc : cz ≠ 107 ∧ cz ≠ 108 ∧ cz ≠ 109 ∧ cz ≠ 110) (n i : Nat) (a : tq_I) (jz : Nat) : (tq_it (f_ac1 cl p) n i a) cz jz = a cz jz := by
  obtain ⟨hc0, hc1, hc2, hc3⟩ := hc
  refine tq_itF (fun i a j => ?_) n i a jz
  simp only [f_ac1]
  (repeat' split) <;> simp (disch := first | assumption | (simp only [ne_eq] at *; simp [*])) [tq_u, tq_cp, hc0, hc1, hc2, hc3, fr_tb1, fr_tb2, fr_X8_touchBlock, fr_X8_touchAll, fr_X8_changeCorner, fr_X8_changePath, fr_cb1, fr_cb2, fr_X8_changeBlock, fr_wipe1, fr_X1_wipe, fr_sm1, fr_sm2, fr_X8_startMap, fr_X6_place, fr_mt1, fr_mt2, fr_X6_moveTo, fr_ch2, fr_X10_choose, fr_X1_take, fr_fgt1, fr_X5_forget, fr_X5_meet, fr_gat1, fr_X5_gather, fr_dl1, fr_dl2, fr_X7_drawLayers, fr_dp1, fr_X7_drawPieces, fr_dr1, fr_X7_draw, fr_X9_add]
theorem tq_acP_it {cl p : Nat} : ∀ (n i : Nat) (a : tq_I), i + n ≤ p → tq_acP cl p a → tq_acP cl p (tq_it (f_ac1 cl p) n i a) := fun n i a hi h => tq_itB (tq_acP cl p) p (fun i a hi ha => tq_acP_add ha (ha.2.2 i hi)) n i a hi h
def I_X9_addCell (I : tq_I) (cl p : Nat) : tq_I := (tq_it (f_ac1 cl p) p 0 I)
set_option maxRecDepth 20000 in
theorem c_X9_addCell (g : tq_G) (rest : List tq_S) (I : tq_I) (J : Int64) (cl p : Nat) (hcl : cl ≤ 99) (hp7 : p ≤ 7) (hI : tq_acP cl p I) : CT g mX9_addCell 1 0 0 [.ref 107, .ref 12, .int (nI cl)] (tq_SC ++ rest) tq_RR I J (tq_ret (tq_SC ++ rest) tq_RR none (I_X9_addCell I cl p) J) := by
  refine CT.ret kX9_addCell (Nat.le_of_ble_eq_true rfl) (fun x0 C hR hZ => ?_)
  refine EV_en (lv' := [some (.ref 107), some (.ref 12), some (.int (nI cl)), none]) 1 rfl ?_
  refine EV_blk (own := 9) C rfl [(.iconst 0, 0, 0, 0, (nI 0)), (.istore_n 3, 0, 0, 0, 0)] (pc' := 2) (by decide +kernel) (lv' := [some (.ref 107), some (.ref 12), some (.int (nI cl)), some (.int (nI 0))]) (st' := []) (I' := I) (J' := J) rfl ?_
  refine lp_ac1 C hR J cl p hcl hp7 p 0 I (by omega) hI ?_
  exact EV_vret C hZ rfl (by decide +kernel) (Nat.le_refl _) (Nat.le_refl _) ⟨rfl, rfl, rfl, by simp only [I_X9_addCell], rfl⟩
theorem fr_X9_addCell (I : tq_I) (cl p : Nat) {cz : Nat} (hc : cz ≠ 107 ∧ cz ≠ 108 ∧ cz ≠ 109 ∧ cz ≠ 110) (jz : Nat) : I_X9_addCell I cl p cz jz = I cz jz := by
  obtain ⟨hc0, hc1, hc2, hc3⟩ := hc
  simp only [I_X9_addCell]
  (repeat' split) <;> simp (disch := first | assumption | (simp only [ne_eq] at *; simp [*])) [tq_u, tq_cp, hc0, hc1, hc2, hc3, fr_tb1, fr_tb2, fr_X8_touchBlock, fr_X8_touchAll, fr_X8_changeCorner, fr_X8_changePath, fr_cb1, fr_cb2, fr_X8_changeBlock, fr_wipe1, fr_X1_wipe, fr_sm1, fr_sm2, fr_X8_startMap, fr_X6_place, fr_mt1, fr_mt2, fr_X6_moveTo, fr_ch2, fr_X10_choose, fr_X1_take, fr_fgt1, fr_X5_forget, fr_X5_meet, fr_gat1, fr_X5_gather, fr_dl1, fr_dl2, fr_X7_drawLayers, fr_dp1, fr_X7_drawPieces, fr_dr1, fr_X7_draw, fr_X9_add, fr_ac1]
/-- what is painted is sound: the counts, the codes -/
def tq_cv (I : tq_I) : Prop := ∀ cl, cl < 100 → (0 ≤ (I 13 cl).toInt ∧ (I 13 cl).toInt ≤ 7) ∧ ∀ k, k < tq_N (I 13 cl) → 0 ≤ (I 14 (cl * 7 + k)).toInt ∧ (I 14 (cl * 7 + k)).toInt ≤ 383
def tq_tkP (w h : Nat) (a : tq_I) : Prop := tq_tl a ∧ tq_cv a ∧ a 2 0 = nI w ∧ a 2 1 = nI h
theorem tq_tkP_cell {w h cl : Nat} {a : tq_I} (hcl : cl < 100) (hP : tq_tkP w h a) : tq_N (a 13 cl) ≤ 7 ∧ tq_acP cl (tq_N (a 13 cl)) a := by
  obtain ⟨h1, h2, h3, h4⟩ := hP
  have h5 := h2 cl hcl
  refine ⟨by unfold tq_N; omega, h1, tq_nIN h5.1.1, h5.2⟩
theorem tq_tkP_step {w h cl : Nat} {a : tq_I} (hcl : cl < 100) (hP : tq_tkP w h a) : tq_tkP w h (I_X9_addCell a cl (tq_N (a 13 cl))) := by
  have h6 := (tq_tkP_cell hcl hP).2
  obtain ⟨h1, h2, h3, h4⟩ := hP
  refine ⟨(tq_acP_it _ _ _ (by omega) h6).1, fun d hd => ?_, by rw [fr_X9_addCell _ _ _ (by decide)]; exact h3, by rw [fr_X9_addCell _ _ _ (by decide)]; exact h4⟩
  have h7 := h2 d hd
  rw [fr_X9_addCell _ _ _ (by decide)]
  refine ⟨h7.1, fun k hk => ?_⟩
  rw [fr_X9_addCell _ _ _ (by decide)]
  exact h7.2 k hk
def f_tk0  (i : Nat) (a : tq_I) : tq_I := (tq_u a 110 i (-1))
set_option maxRecDepth 20000 in
theorem lp_tk0 {g : tq_G} {rest : List tq_S} {x0 : tq_X} (C : tq_C g mX9_take x0) (hR : tq_ht x0 2 0 0) (J : Int64)   : ∀ (n i : Nat) (a : tq_I), i + n = 384 → EV g mX9_take x0 0 0 27 [some (.ref 107), some (.ref 1), some (.int (nI (i + n))), none] [] (tq_SC ++ rest) tq_RR (tq_it (f_tk0) n i a) J → EV g mX9_take x0 0 0 7 [some (.ref 107), some (.ref 1), some (.int (nI i)), none] [] (tq_SC ++ rest) tq_RR a J := by
  intro n
  induction n with
  | zero =>
    intro i a hi kk
    rw [Nat.add_zero] at kk
    refine EV_blk (own := 9) C rfl [(.iload_n 2, 0, 0, 0, 0), (.sipush 384, 0, 0, 0, (nI 384))] (pc' := 11) (by decide +kernel) (lv' := [some (.ref 107), some (.ref 1), some (.int (nI i)), none]) (st' := [.int (nI 384), .int (nI i)]) (I' := a) (J' := J) rfl ?_
    refine EV_icmp_ge (off := 16) (tgt := 27) C (by decide +kernel) (by decide) (fun h1 => ?_) (fun h1 => ?_)
    · skip
      exact kk
    · skip
      exact absurd h1 (by simp (disch := omega) only [Int32.lt_iff_toInt_lt, Int32.le_iff_toInt_le, Int32.toInt_zero, nI_toInt, tq_m1]; omega)
  | succ n ih =>
    intro i a hi kk
    rw [show i + (n + 1) = (i + 1) + n by omega] at kk
    refine EV_blk (own := 9) C rfl [(.iload_n 2, 0, 0, 0, 0), (.sipush 384, 0, 0, 0, (nI 384))] (pc' := 11) (by decide +kernel) (lv' := [some (.ref 107), some (.ref 1), some (.int (nI i)), none]) (st' := [.int (nI 384), .int (nI i)]) (I' := a) (J' := J) rfl ?_
    refine EV_icmp_ge (off := 16) (tgt := 27) C (by decide +kernel) (by decide) (fun h1 => ?_) (fun h1 => ?_)
    · skip
      exact absurd h1 (by simp (disch := omega) only [Int32.lt_iff_toInt_lt, Int32.le_iff_toInt_le, Int32.toInt_zero, nI_toInt, tq_m1]; omega)
    · skip
      refine EV_blk (own := 9) C rfl [(.aload_n 0, 0, 0, 0, 0), (.getfield 18, 9, 2, 291, 0), (.iload_n 2, 0, 0, 0, 0), (.iconst (-1), 0, 0, 0, (-1))] (pc' := 20) (by decide +kernel) (lv' := [some (.ref 107), some (.ref 1), some (.int (nI i)), none]) (st' := [.int (-1), .int (nI i), .ref 110]) (I' := a) (J' := J) rfl ?_
      refine EV_iast (j := i) C (by decide +kernel) rfl (nI_toInt (by omega)) (by omega) ?_
      refine EV_blk (own := 9) C rfl [(.iinc 2 1, 0, 0, 0, (nI 1)), (.goto (-17), 0, 0, 0, 0)] (pc' := 7) (by decide +kernel) (lv' := [some (.ref 107), some (.ref 1), some (.int ((nI i) + (nI 1))), none]) (st' := []) (I' := (tq_u a 110 i (-1))) (J' := J) rfl ?_
      rw [show ((nI i) + (nI 1)) = (nI (i + 1)) from by simp (disch := omega) only [nI_add, tq_mul] <;> exact congrArg nI (by omega)]
      rw [tq_its, show (f_tk0) i a = (tq_u a 110 i (-1)) from by simp only [f_tk0, if_neg h1]] at kk
      exact ih (i + 1) (tq_u a 110 i (-1)) (by omega) kk
theorem fr_tk0  {cz : Nat} (hc : cz ≠ 110) (n i : Nat) (a : tq_I) (jz : Nat) : (tq_it (f_tk0) n i a) cz jz = a cz jz := by
  have hc0 := hc
  refine tq_itF (fun i a j => ?_) n i a jz
  simp only [f_tk0]
  (repeat' split) <;> simp (disch := first | assumption | (simp only [ne_eq] at *; simp [*])) [tq_u, tq_cp, hc0, fr_tb1, fr_tb2, fr_X8_touchBlock, fr_X8_touchAll, fr_X8_changeCorner, fr_X8_changePath, fr_cb1, fr_cb2, fr_X8_changeBlock, fr_wipe1, fr_X1_wipe, fr_sm1, fr_sm2, fr_X8_startMap, fr_X6_place, fr_mt1, fr_mt2, fr_X6_moveTo, fr_ch2, fr_X10_choose, fr_X1_take, fr_fgt1, fr_X5_forget, fr_X5_meet, fr_gat1, fr_X5_gather, fr_dl1, fr_dl2, fr_X7_drawLayers, fr_dp1, fr_X7_drawPieces, fr_dr1, fr_X7_draw, fr_X9_add, fr_ac1, fr_X9_addCell]
def f_tk1 (w h y : Nat) (i : Nat) (a : tq_I) : tq_I := (I_X9_addCell a (y * 10 + i) (tq_N (a 13 (y * 10 + i))))
set_option maxRecDepth 20000 in
theorem lp_tk1 {g : tq_G} {rest : List tq_S} {x0 : tq_X} (C : tq_C g mX9_take x0) (hR : tq_ht x0 2 0 0) (J : Int64) (w h y : Nat) (hw10 : w ≤ 10) (hy : y ≤ 9) : ∀ (n i : Nat) (a : tq_I), i + n = w → tq_tkP w h a → EV g mX9_take x0 0 0 72 [some (.ref 107), some (.ref 1), some (.int (nI y)), some (.int (nI (i + n)))] [] (tq_SC ++ rest) tq_RR (tq_it (f_tk1 w h y) n i a) J → EV g mX9_take x0 0 0 42 [some (.ref 107), some (.ref 1), some (.int (nI y)), some (.int (nI i))] [] (tq_SC ++ rest) tq_RR a J := by
  intro n
  induction n with
  | zero =>
    intro i a hi hI kk
    rw [Nat.add_zero] at kk
    refine EV_blk (own := 9) C rfl [(.iload_n 3, 0, 0, 0, 0), (.aload_n 1, 0, 0, 0, 0), (.getfield 25, 8, 0, 191, 0), (.getfield 36, 3, 0, 96, 0)] (pc' := 50) (by decide +kernel) (lv' := [some (.ref 107), some (.ref 1), some (.int (nI y)), some (.int (nI i))]) (st' := [.int (a 2 0), .int (nI i)]) (I' := a) (J' := J) rfl ?_
    refine EV_icmp_ge (off := 22) (tgt := 72) C (by decide +kernel) (by decide) (fun h1 => ?_) (fun h1 => ?_)
    · skip
      exact kk
    · skip
      exact absurd h1 (by simp (disch := omega) only [Int32.lt_iff_toInt_lt, Int32.le_iff_toInt_le, Int32.toInt_zero, nI_toInt, tq_m1, hI.2.2.1]; omega)
  | succ n ih =>
    intro i a hi hI kk
    rw [show i + (n + 1) = (i + 1) + n by omega] at kk
    refine EV_blk (own := 9) C rfl [(.iload_n 3, 0, 0, 0, 0), (.aload_n 1, 0, 0, 0, 0), (.getfield 25, 8, 0, 191, 0), (.getfield 36, 3, 0, 96, 0)] (pc' := 50) (by decide +kernel) (lv' := [some (.ref 107), some (.ref 1), some (.int (nI y)), some (.int (nI i))]) (st' := [.int (a 2 0), .int (nI i)]) (I' := a) (J' := J) rfl ?_
    refine EV_icmp_ge (off := 22) (tgt := 72) C (by decide +kernel) (by decide) (fun h1 => ?_) (fun h1 => ?_)
    · skip
      exact absurd h1 (by simp (disch := omega) only [Int32.lt_iff_toInt_lt, Int32.le_iff_toInt_le, Int32.toInt_zero, nI_toInt, tq_m1, hI.2.2.1]; omega)
    · skip
      refine EV_blk (own := 9) C rfl [(.aload_n 0, 0, 0, 0, 0), (.aload_n 1, 0, 0, 0, 0), (.getfield 39, 8, 2, 198, 0), (.iload_n 3, 0, 0, 0, 0), (.iload_n 2, 0, 0, 0, 0)] (pc' := 60) (by decide +kernel) (lv' := [some (.ref 107), some (.ref 1), some (.int (nI y)), some (.int (nI i))]) (st' := [.int (nI y), .int (nI i), .ref 12, .ref 107]) (I' := a) (J' := J) rfl ?_
      refine EV_cS (own := 9) (idx := 43) (μ' := mX11_cellIndex) (av := [.int (nI i), .int (nI y)]) (rest := [.ref 12, .ref 107]) C hR rfl (Or.inr ⟨768, by decide⟩) kX11_cellIndex sX11_cellIndex (c_X11_cellIndex g rest a J i y ) (by decide +kernel) rfl (by decide) (Nat.le_of_ble_eq_true rfl) rfl ⟨Nat.zero_le _, Nat.zero_le _⟩ ?_
      have hq := tq_tkP_cell (cl := (y * 10 + i)) (by omega) hI
      refine EV_cV (own := 9) (idx := 47) (μ' := mX9_addCell) (b := 107) (cb := 9) (av := [.ref 12, .int (nI (y * 10 + i))]) (rest := []) C hR rfl (Or.inl ⟨769, by decide⟩) kX9_addCell sX9_addCell (c_X9_addCell g rest a J (y * 10 + i) (tq_N (a 13 (y * 10 + i))) (by omega) hq.1 hq.2) rfl rfl (by decide +kernel) rfl (by decide) (Nat.le_of_ble_eq_true rfl) rfl ⟨Nat.zero_le _, Nat.zero_le _⟩ ?_
      refine EV_blk (own := 9) C rfl [(.iinc 3 1, 0, 0, 0, (nI 1)), (.goto (-27), 0, 0, 0, 0)] (pc' := 42) (by decide +kernel) (lv' := [some (.ref 107), some (.ref 1), some (.int (nI y)), some (.int ((nI i) + (nI 1)))]) (st' := []) (I' := (I_X9_addCell a (y * 10 + i) (tq_N (a 13 (y * 10 + i))))) (J' := J) rfl ?_
      rw [show ((nI i) + (nI 1)) = (nI (i + 1)) from by simp (disch := omega) only [nI_add, tq_mul] <;> exact congrArg nI (by omega)]
      rw [tq_its, show (f_tk1 w h y) i a = (I_X9_addCell a (y * 10 + i) (tq_N (a 13 (y * 10 + i)))) from by simp only [f_tk1, if_neg h1]] at kk
      exact ih (i + 1) (I_X9_addCell a (y * 10 + i) (tq_N (a 13 (y * 10 + i)))) (by omega) (tq_tkP_step (by omega) hI) kk
theorem fr_tk1 (w h y : Nat) {cz : Nat} (hc : cz ≠ 107 ∧ cz ≠ 108 ∧ cz ≠ 109 ∧ cz ≠ 110) (n i : Nat) (a : tq_I) (jz : Nat) : (tq_it (f_tk1 w h y) n i a) cz jz = a cz jz := by
  obtain ⟨hc0, hc1, hc2, hc3⟩ := hc
  refine tq_itF (fun i a j => ?_) n i a jz
  simp only [f_tk1]
  (repeat' split) <;> simp (disch := first | assumption | (simp only [ne_eq] at *; simp [*])) [tq_u, tq_cp, hc0, hc1, hc2, hc3, fr_tb1, fr_tb2, fr_X8_touchBlock, fr_X8_touchAll, fr_X8_changeCorner, fr_X8_changePath, fr_cb1, fr_cb2, fr_X8_changeBlock, fr_wipe1, fr_X1_wipe, fr_sm1, fr_sm2, fr_X8_startMap, fr_X6_place, fr_mt1, fr_mt2, fr_X6_moveTo, fr_ch2, fr_X10_choose, fr_X1_take, fr_fgt1, fr_X5_forget, fr_X5_meet, fr_gat1, fr_X5_gather, fr_dl1, fr_dl2, fr_X7_drawLayers, fr_dp1, fr_X7_drawPieces, fr_dr1, fr_X7_draw, fr_X9_add, fr_ac1, fr_X9_addCell, fr_tk0]
theorem tq_tk1P {w h y : Nat} (hw10 : w ≤ 10) (hy : y ≤ 9) (n i : Nat) (a : tq_I) (hi : i + n ≤ w) (h0 : tq_tkP w h a) : tq_tkP w h (tq_it (f_tk1 w h y) n i a) := tq_itB (tq_tkP w h) w (fun i a hi ha => tq_tkP_step (by omega) ha) n i a hi h0
def f_tk2 (w h : Nat) (i : Nat) (a : tq_I) : tq_I := (tq_it (f_tk1 w h i) w 0 a)
set_option maxRecDepth 20000 in
theorem lp_tk2 {g : tq_G} {rest : List tq_S} {x0 : tq_X} (C : tq_C g mX9_take x0) (hR : tq_ht x0 2 0 0) (J : Int64) (w h : Nat) (hw10 : w ≤ 10) (hh10 : h ≤ 10) : ∀ (n i : Nat) (a : tq_I), i + n = h → tq_tkP w h a → EV g mX9_take x0 0 0 78 [some (.ref 107), some (.ref 1), some (.int (nI (i + n))), none] [] (tq_SC ++ rest) tq_RR (tq_it (f_tk2 w h) n i a) J → EV g mX9_take x0 0 0 29 [some (.ref 107), some (.ref 1), some (.int (nI i)), none] [] (tq_SC ++ rest) tq_RR a J := by
  intro n
  induction n with
  | zero =>
    intro i a hi hI kk
    rw [Nat.add_zero] at kk
    refine EV_blk (own := 9) C rfl [(.iload_n 2, 0, 0, 0, 0), (.aload_n 1, 0, 0, 0, 0), (.getfield 25, 8, 0, 191, 0), (.getfield 31, 3, 1, 100, 0)] (pc' := 37) (by decide +kernel) (lv' := [some (.ref 107), some (.ref 1), some (.int (nI i)), none]) (st' := [.int (a 2 1), .int (nI i)]) (I' := a) (J' := J) rfl ?_
    refine EV_icmp_ge (off := 41) (tgt := 78) C (by decide +kernel) (by decide) (fun h1 => ?_) (fun h1 => ?_)
    · skip
      exact kk
    · skip
      exact absurd h1 (by simp (disch := omega) only [Int32.lt_iff_toInt_lt, Int32.le_iff_toInt_le, Int32.toInt_zero, nI_toInt, tq_m1, hI.2.2.2]; omega)
  | succ n ih =>
    intro i a hi hI kk
    rw [show i + (n + 1) = (i + 1) + n by omega] at kk
    refine EV_blk (own := 9) C rfl [(.iload_n 2, 0, 0, 0, 0), (.aload_n 1, 0, 0, 0, 0), (.getfield 25, 8, 0, 191, 0), (.getfield 31, 3, 1, 100, 0)] (pc' := 37) (by decide +kernel) (lv' := [some (.ref 107), some (.ref 1), some (.int (nI i)), none]) (st' := [.int (a 2 1), .int (nI i)]) (I' := a) (J' := J) rfl ?_
    refine EV_icmp_ge (off := 41) (tgt := 78) C (by decide +kernel) (by decide) (fun h1 => ?_) (fun h1 => ?_)
    · skip
      exact absurd h1 (by simp (disch := omega) only [Int32.lt_iff_toInt_lt, Int32.le_iff_toInt_le, Int32.toInt_zero, nI_toInt, tq_m1, hI.2.2.2]; omega)
    · skip
      refine EV_blk (own := 9) C rfl [(.iconst 0, 0, 0, 0, (nI 0)), (.istore_n 3, 0, 0, 0, 0)] (pc' := 42) (by decide +kernel) (lv' := [some (.ref 107), some (.ref 1), some (.int (nI i)), some (.int (nI 0))]) (st' := []) (I' := a) (J' := J) rfl ?_
      refine lp_tk1 C hR J w h i hw10 (by omega) w 0 a (by omega) hI ?_
      refine EV_blk (own := 9) C rfl [(.iinc 2 1, 0, 0, 0, (nI 1)), (.goto (-46), 0, 0, 0, 0)] (pc' := 29) (by decide +kernel) (lv' := [some (.ref 107), some (.ref 1), some (.int ((nI i) + (nI 1))), some (.int (nI ((0 + w))))]) (st' := []) (I' := (tq_it (f_tk1 w h i) w 0 a)) (J' := J) rfl ?_
      refine EV_fg (lv' := [some (.ref 107), some (.ref 1), some (.int ((nI i) + (nI 1))), none]) ⟨rfl, rfl, rfl, trivial⟩ ?_
      rw [show ((nI i) + (nI 1)) = (nI (i + 1)) from by simp (disch := omega) only [nI_add, tq_mul] <;> exact congrArg nI (by omega)]
      rw [tq_its, show (f_tk2 w h) i a = (tq_it (f_tk1 w h i) w 0 a) from by simp only [f_tk2, if_neg h1]] at kk
      exact ih (i + 1) (tq_it (f_tk1 w h i) w 0 a) (by omega) (tq_tk1P hw10 (by omega) _ _ _ (by omega) hI) kk
theorem fr_tk2 (w h : Nat) {cz : Nat} (hc : cz ≠ 107 ∧ cz ≠ 108 ∧ cz ≠ 109 ∧ cz ≠ 110) (n i : Nat) (a : tq_I) (jz : Nat) : (tq_it (f_tk2 w h) n i a) cz jz = a cz jz := by
  obtain ⟨hc0, hc1, hc2, hc3⟩ := hc
  refine tq_itF (fun i a j => ?_) n i a jz
  simp only [f_tk2]
  (repeat' split) <;> simp (disch := first | assumption | (simp only [ne_eq] at *; simp [*])) [tq_u, tq_cp, hc0, hc1, hc2, hc3, fr_tb1, fr_tb2, fr_X8_touchBlock, fr_X8_touchAll, fr_X8_changeCorner, fr_X8_changePath, fr_cb1, fr_cb2, fr_X8_changeBlock, fr_wipe1, fr_X1_wipe, fr_sm1, fr_sm2, fr_X8_startMap, fr_X6_place, fr_mt1, fr_mt2, fr_X6_moveTo, fr_ch2, fr_X10_choose, fr_X1_take, fr_fgt1, fr_X5_forget, fr_X5_meet, fr_gat1, fr_X5_gather, fr_dl1, fr_dl2, fr_X7_drawLayers, fr_dp1, fr_X7_drawPieces, fr_dr1, fr_X7_draw, fr_X9_add, fr_ac1, fr_X9_addCell, fr_tk0, fr_tk1]
theorem tq_tk0_get (n : Nat) : ∀ (i : Nat) (a : tq_I) (k : Nat), i ≤ k → k < i + n → tq_it f_tk0 n i a 110 k = -1 := by
  induction n with
  | zero => intro i a k h1 h2; omega
  | succ n ih =>
    intro i a k h1 h2
    rw [tq_its]
    by_cases hk : k = i
    · subst hk
      have : ∀ (m j : Nat) (b : tq_I), k < j → tq_it f_tk0 m j b 110 k = b 110 k := by
        intro m
        induction m with
        | zero => intro j b _; rfl
        | succ m ih2 =>
          intro j b hj
          rw [tq_its, ih2 (j + 1) _ (by omega)]
          simp only [f_tk0]
          rw [tq_u_slot (by omega)]
      rw [this n (k + 1) _ (by omega)]
      simp only [f_tk0]
      rw [tq_u_same]
    · exact ih (i + 1) _ k (by omega) (by omega)
theorem tq_tl_0 {I : tq_I} : tq_tl (tq_it f_tk0 384 0 (tq_u I 107 3 (nI 0))) := by
  have e : tq_it f_tk0 384 0 (tq_u I 107 3 (nI 0)) 107 3 = nI 0 := by rw [fr_tk0 (by decide), tq_u_same]
  refine ⟨by rw [e]; decide, by rw [e]; decide, fun k hk => ?_, fun c hc => Or.inl (tq_tk0_get 384 0 _ c (by omega) (by omega))⟩
  rw [e, tq_N_nI (by decide)] at hk
  exact absurd hk (Nat.not_lt_zero k)
theorem tq_tkP_0 {w h : Nat} {I : tq_I} (hv : tq_cv I) (hw : I 2 0 = nI w) (hh : I 2 1 = nI h) : tq_tkP w h (tq_it f_tk0 384 0 (tq_u I 107 3 (nI 0))) := by
  have e : ∀ c j, c ≠ 110 → c ≠ 107 → tq_it f_tk0 384 0 (tq_u I 107 3 (nI 0)) c j = I c j := fun c j h1 h2 => by rw [fr_tk0 h1, tq_u_cell h2]
  refine ⟨tq_tl_0, fun d hd => ?_, by rw [e _ _ (by decide) (by decide)]; exact hw, by rw [e _ _ (by decide) (by decide)]; exact hh⟩
  have h7 := hv d hd
  rw [e _ _ (by decide) (by decide)]
  refine ⟨h7.1, fun k hk => ?_⟩
  rw [e _ _ (by decide) (by decide)]
  exact h7.2 k hk
def I_X9_take (I : tq_I) (w h : Nat) : tq_I := (tq_it (f_tk2 w h) h 0 (tq_it (f_tk0) 384 0 (tq_u I 107 3 (nI 0))))
set_option maxRecDepth 20000 in
theorem c_X9_take (g : tq_G) (rest : List tq_S) (I : tq_I) (J : Int64) (w h : Nat) (hw : I 2 0 = nI w) (hh : I 2 1 = nI h) (hw10 : w ≤ 10) (hh10 : h ≤ 10) (hv : tq_cv I) : CT g mX9_take 2 0 0 [.ref 107, .ref 1] (tq_SC ++ rest) tq_RR I J (tq_ret (tq_SC ++ rest) tq_RR none (I_X9_take I w h) J) := by
  refine CT.ret kX9_take (Nat.le_of_ble_eq_true rfl) (fun x0 C hR hZ => ?_)
  refine EV_en (lv' := [some (.ref 107), some (.ref 1), none, none]) 2 rfl ?_
  refine EV_blk (own := 9) C rfl [(.aload_n 0, 0, 0, 0, 0), (.iconst 0, 0, 0, 0, (nI 0)), (.putfield 21, 9, 3, 292, 0), (.iconst 0, 0, 0, 0, (nI 0)), (.istore_n 2, 0, 0, 0, 0)] (pc' := 7) (by decide +kernel) (lv' := [some (.ref 107), some (.ref 1), some (.int (nI 0)), none]) (st' := []) (I' := (tq_u I 107 3 (nI 0))) (J' := J) rfl ?_
  refine lp_tk0 C hR J  384 0 (tq_u I 107 3 (nI 0)) (by omega) ?_
  refine EV_blk (own := 9) C rfl [(.iconst 0, 0, 0, 0, (nI 0)), (.istore_n 2, 0, 0, 0, 0)] (pc' := 29) (by decide +kernel) (lv' := [some (.ref 107), some (.ref 1), some (.int (nI 0)), none]) (st' := []) (I' := (tq_it (f_tk0) 384 0 (tq_u I 107 3 (nI 0)))) (J' := J) rfl ?_
  refine lp_tk2 C hR J w h hw10 hh10 h 0 (tq_it (f_tk0) 384 0 (tq_u I 107 3 (nI 0))) (by omega) (tq_tkP_0 hv hw hh) ?_
  exact EV_vret C hZ rfl (by decide +kernel) (Nat.le_refl _) (Nat.le_refl _) ⟨rfl, rfl, rfl, by simp only [I_X9_take], rfl⟩
theorem fr_X9_take (I : tq_I) (w h : Nat) {cz : Nat} (hc : cz ≠ 107 ∧ cz ≠ 108 ∧ cz ≠ 109 ∧ cz ≠ 110) (jz : Nat) : I_X9_take I w h cz jz = I cz jz := by
  obtain ⟨hc0, hc1, hc2, hc3⟩ := hc
  simp only [I_X9_take]
  (repeat' split) <;> simp (disch := first | assumption | (simp only [ne_eq] at *; simp [*])) [tq_u, tq_cp, hc0, hc1, hc2, hc3, fr_tb1, fr_tb2, fr_X8_touchBlock, fr_X8_touchAll, fr_X8_changeCorner, fr_X8_changePath, fr_cb1, fr_cb2, fr_X8_changeBlock, fr_wipe1, fr_X1_wipe, fr_sm1, fr_sm2, fr_X8_startMap, fr_X6_place, fr_mt1, fr_mt2, fr_X6_moveTo, fr_ch2, fr_X10_choose, fr_X1_take, fr_fgt1, fr_X5_forget, fr_X5_meet, fr_gat1, fr_X5_gather, fr_dl1, fr_dl2, fr_X7_drawLayers, fr_dp1, fr_X7_drawPieces, fr_dr1, fr_X7_draw, fr_X9_add, fr_ac1, fr_X9_addCell, fr_tk0, fr_tk1, fr_tk2]
theorem tq_take_ok {w h : Nat} {I : tq_I} (hw : I 2 0 = nI w) (hh : I 2 1 = nI h) (hw10 : w ≤ 10) (hh10 : h ≤ 10) (hv : tq_cv I) : tq_tl (I_X9_take I w h) := (tq_itB (tq_tkP w h) h (fun i a hi ha => tq_tk1P hw10 (by omega) _ _ _ (by omega) ha) h 0 _ (by omega) (tq_tkP_0 hv hw hh)).1
