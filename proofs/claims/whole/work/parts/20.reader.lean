/-! the reader's loop -/
theorem tq_mr_put4 {I : tq_I} {v : Int32} (h : tq_mr I) (hb : ¬ tq_b ((nI 1).toInt ≤ v.toInt ∧ v.toInt ≤ (nI 11).toInt) = 0) : tq_mr (tq_u I 115 4 v) := by
  have h0 := tq_b1.mp (tq_b01.resolve_left hb)
  obtain ⟨h1, h2, h3, h4⟩ := h
  have e1 : (nI 1).toInt = 1 := by decide
  have e2 : (nI 11).toInt = 11 := by decide
  refine ⟨h1, h2, h3, ?_⟩
  show 0 ≤ v.toInt ∧ v.toInt ≤ 11
  omega
theorem tq_mr_number {I : tq_I} {p L : Nat} (h : tq_mr I) : tq_mr (I_X4_acceptNumber I p L) := by
  unfold I_X4_acceptNumber
  (repeat' split) <;> first | exact h | exact tq_mr_put4 h (by assumption)
theorem tq_mr_put {I K : tq_I} {e : Nat} (h : tq_mr I) (hK : ∀ j, K 115 j = I 115 j) (he : e ≤ 11) : tq_mr (tq_u (tq_u K 115 2 (nI e)) 115 4 (nI 0)) := by
  obtain ⟨h1, h2, h3, h4⟩ := h
  refine ⟨?_, ?_, ?_, ?_⟩
  · show 0 ≤ (K 115 1).toInt ∧ (K 115 1).toInt ≤ 10
    rw [hK]; exact h1
  · show 0 ≤ (nI e).toInt ∧ (nI e).toInt ≤ 11
    rw [nI_toInt (by omega)]; omega
  · show 0 ≤ (K 115 3).toInt ∧ (K 115 3).toInt ≤ 11
    rw [hK]; exact h3
  · show 0 ≤ (nI 0).toInt ∧ (nI 0).toInt ≤ 11
    decide
theorem tq_mr_letter {I : tq_I} {t : Int32} (h : tq_mr I) : tq_mr (I_X4_acceptLetter I t) := by
  have hN : tq_N (I 115 4) ≤ 11 := by have := h.2.2.2; unfold tq_N; omega
  have hM : tq_N (I 115 2) ≤ 11 := by have := h.2.1; unfold tq_N; omega
  have h3 := h.2.2.1
  unfold I_X4_acceptLetter
  split
  · split
    · rename_i hq
      simp (disch := omega) only [Int32.le_iff_toInt_le, nI_toInt] at hq
      exact tq_mr_put h (fun j => fr_al1 _ _ _ _ (by decide) _ _ _ _) (by omega)
    · exact h
  · split
    · rename_i hq
      simp (disch := omega) only [Int32.le_iff_toInt_le, nI_toInt] at hq
      exact tq_mr_put h (fun j => fr_al1 _ _ _ _ (by decide) _ _ _ _) (by omega)
    · exact h
theorem tq_mr_accept {I : tq_I} {p L : Nat} (h : tq_mr I) : tq_mr (I_X4_accept I p L) := by
  unfold I_X4_accept
  split
  · exact h
  · split
    · split
      · exact tq_mr_rowEnd h
      · split
        · exact h
        · exact tq_mr_letter h
    · exact tq_mr_number h
theorem tq_acc_r {I : tq_I} {p L : Nat} (hp : p < L) (hL : I 111 1 = nI L) (hL150 : L ≤ 150) : r_X4_accept I p L = nI 0 ∨ r_X4_accept I p L = nI 1 ∨ (r_X4_accept I p L = nI 2 ∧ p + 2 ≤ L) := by
  have hn : r_X4_acceptNumber I p L = nI 0 ∨ r_X4_acceptNumber I p L = nI 1 ∨ (r_X4_acceptNumber I p L = nI 2 ∧ p + 2 ≤ L) := by
    unfold r_X4_acceptNumber
    split
    · split
      · split
        · exact Or.inl rfl
        · exact Or.inr (Or.inl rfl)
      · rename_i h1
        have h2 : p + 2 ≤ L := by
          rw [hL] at h1
          simp (disch := omega) only [nI_add, Int32.le_iff_toInt_le, nI_toInt] at h1
          omega
        (repeat' split) <;> first | exact Or.inl rfl | exact Or.inr (Or.inl rfl) | exact Or.inr (Or.inr ⟨rfl, h2⟩)
    · exact Or.inl rfl
  unfold r_X4_accept
  split
  · exact Or.inr (Or.inl rfl)
  · split
    · split
      · unfold r_X4_acceptRowEnd
        (repeat' split) <;> first | exact Or.inl rfl | exact Or.inr (Or.inl rfl)
      · split
        · exact Or.inl rfl
        · unfold r_X4_acceptLetter
          (repeat' split) <;> first | exact Or.inl rfl | exact Or.inr (Or.inl rfl)
    · exact hn
/-- the loop's state: the place, the store -/
def tq_foP (L : Nat) (a : Int32 × tq_I) : Prop := 0 ≤ a.1.toInt ∧ a.1.toInt ≤ (L : Int) ∧ tq_mr a.2 ∧ a.2 111 1 = nI L
theorem tq_foP_step {L : Nat} {a : Int32 × tq_I} (hL150 : L ≤ 150) (h : tq_foP L a) (h1 : ¬ a.2 111 1 ≤ a.1) (h2 : 0 < r_X4_accept a.2 (tq_N a.1) L) : tq_foP L (a.1 + r_X4_accept a.2 (tq_N a.1) L, I_X4_accept a.2 (tq_N a.1) L) ∧ a.1.toInt + 1 ≤ (a.1 + r_X4_accept a.2 (tq_N a.1) L).toInt := by
  obtain ⟨g1, g2, g3, g4⟩ := h
  have hlt : tq_N a.1 < L := by
    rw [g4] at h1
    simp (disch := omega) only [Int32.le_iff_toInt_le, nI_toInt] at h1
    exact tq_Nlt g1 (by omega)
  have e := tq_nIN g1
  have hN := tq_NI g1
  have key : ∀ k : Nat, tq_N a.1 + k ≤ L → (a.1 + nI k).toInt = a.1.toInt + k := by
    intro k hk
    rw [e, nI_add, nI_toInt (by omega), nI_toInt (by omega)]
    omega
  have hI' : tq_mr (I_X4_accept a.2 (tq_N a.1) L) := tq_mr_accept g3
  have h111 : I_X4_accept a.2 (tq_N a.1) L 111 1 = nI L := by rw [fr_X4_accept _ _ _ (by decide)]; exact g4
  rcases tq_acc_r (I := a.2) hlt g4 hL150 with q | q | ⟨q, q2⟩
  · rw [q] at h2; exact absurd h2 (by decide)
  · rw [q]
    have := key 1 (by omega)
    exact ⟨⟨by show 0 ≤ (a.1 + nI 1).toInt; omega, by show (a.1 + nI 1).toInt ≤ _; omega, hI', h111⟩, by omega⟩
  · rw [q]
    have := key 2 (by omega)
    exact ⟨⟨by show 0 ≤ (a.1 + nI 2).toInt; omega, by show (a.1 + nI 2).toInt ≤ _; omega, hI', h111⟩, by omega⟩
def f_fo1 (L : Nat) (a : Int32 × tq_I) : (Int32 × tq_I) ⊕ (Int32 × tq_I) ⊕ Unit := (if (a.2 111 1) ≤ a.1 then (.inr (.inr ())) else (if 0 < (r_X4_accept a.2 (tq_N a.1) L) then (.inl ((a.1 + (r_X4_accept a.2 (tq_N a.1) L)), (I_X4_accept a.2 (tq_N a.1) L))) else (.inr (.inl (a.1, (I_X4_accept a.2 (tq_N a.1) L))))))
def d_fo1 (L : Nat) (a : Int32 × tq_I) : Int32 × tq_I := (if (a.2 115 4) = 0 then (if (a.2 115 1) ≤ 0 then ((a.2 111 1), a.2) else (if (r_X4_isRowWhole a.2) = 0 then ((a.2 111 1), a.2) else ((-1), a.2))) else ((a.2 111 1), a.2))
set_option maxRecDepth 20000 in
theorem lp_fo1 {g : tq_G} {rest : List tq_S} {x0 : tq_X} {res : Int32} {I1 : tq_I} (C : tq_C g mX4_faultOf x0) (hR : tq_ht x0 4 0 0) (J : Int64) (hZ : tq_end g x0 (tq_ret (tq_SC ++ rest) tq_RR (some (.int res)) I1 J) 0 0) (L : Nat) (hL150 : L ≤ 150) : ∀ (n : Nat) (a : Int32 × tq_I), (L : Int) ≤ a.1.toInt + n → tq_foP L a → (res, I1) = tq_wr (f_fo1 L) (d_fo1 L) n a → EV g mX4_faultOf x0 0 0 22 [some (.ref 115), some (.ref 111), some (.int a.1), none] [] (tq_SC ++ rest) tq_RR a.2 J := by
  intro n
  induction n with
  | zero =>
    intro a hi hI hr
    refine EV_blk (own := 4) C rfl [(.iload_n 2, 0, 0, 0, 0), (.aload_n 1, 0, 0, 0, 0), (.getfield 28, 0, 1, 313, 0)] (pc' := 27) (by decide +kernel) (lv' := [some (.ref 115), some (.ref 111), some (.int a.1), none]) (st' := [.int (a.2 111 1), .int a.1]) (I' := a.2) (J' := J) rfl ?_
    refine EV_icmp_ge (off := 23) (tgt := 50) C (by decide +kernel) (by decide) (fun h1 => ?_) (fun h1 => ?_)
    · skip
      refine EV_blk (own := 4) C rfl [(.aload_n 0, 0, 0, 0, 0), (.getfield 25, 4, 4, 333, 0)] (pc' := 54) (by decide +kernel) (lv' := [some (.ref 115), some (.ref 111), some (.int a.1), none]) (st' := [.int (a.2 115 4)]) (I' := a.2) (J' := J) rfl ?_
      refine EV_if_ne (off := 21) (tgt := 75) C (by decide +kernel) (by decide) (fun h2 => ?_) (fun h2 => ?_)
      · skip
        refine EV_blk (own := 4) C rfl [(.aload_n 1, 0, 0, 0, 0), (.getfield 28, 0, 1, 313, 0)] (pc' := 79) (by decide +kernel) (lv' := [some (.ref 115), some (.ref 111), some (.int a.1), none]) (st' := [.int (a.2 111 1)]) (I' := a.2) (J' := J) rfl ?_
        exact EV_iret C hZ rfl (by decide +kernel) (Nat.le_refl _) (Nat.le_refl _) ⟨tq_some (congrArg Prod.fst (hr.trans (show (d_fo1 L) a = ((a.2 111 1), a.2) from by simp only [d_fo1, if_neg h2]))).symm, rfl, rfl, (congrArg Prod.snd (hr.trans (show (d_fo1 L) a = ((a.2 111 1), a.2) from by simp only [d_fo1, if_neg h2]))).symm, rfl⟩
      · skip
        refine EV_blk (own := 4) C rfl [(.aload_n 0, 0, 0, 0, 0), (.getfield 15, 4, 1, 328, 0)] (pc' := 61) (by decide +kernel) (lv' := [some (.ref 115), some (.ref 111), some (.int a.1), none]) (st' := [.int (a.2 115 1)]) (I' := a.2) (J' := J) rfl ?_
        refine EV_if_le (off := 14) (tgt := 75) C (by decide +kernel) (by decide) (fun h3 => ?_) (fun h3 => ?_)
        · skip
          refine EV_blk (own := 4) C rfl [(.aload_n 1, 0, 0, 0, 0), (.getfield 28, 0, 1, 313, 0)] (pc' := 79) (by decide +kernel) (lv' := [some (.ref 115), some (.ref 111), some (.int a.1), none]) (st' := [.int (a.2 111 1)]) (I' := a.2) (J' := J) rfl ?_
          exact EV_iret C hZ rfl (by decide +kernel) (Nat.le_refl _) (Nat.le_refl _) ⟨tq_some (congrArg Prod.fst (hr.trans (show (d_fo1 L) a = ((a.2 111 1), a.2) from by simp only [d_fo1, if_pos h2, if_pos h3]))).symm, rfl, rfl, (congrArg Prod.snd (hr.trans (show (d_fo1 L) a = ((a.2 111 1), a.2) from by simp only [d_fo1, if_pos h2, if_pos h3]))).symm, rfl⟩
        · skip
          refine EV_blk (own := 4) C rfl [(.aload_n 0, 0, 0, 0, 0)] (pc' := 65) (by decide +kernel) (lv' := [some (.ref 115), some (.ref 111), some (.int a.1), none]) (st' := [.ref 115]) (I' := a.2) (J' := J) rfl ?_
          refine EV_cV (own := 4) (idx := 37) (μ' := mX4_isRowWhole) (b := 115) (cb := 4) (av := []) (rest := []) C hR rfl (Or.inl ⟨826, by decide⟩) kX4_isRowWhole sX4_isRowWhole (c_X4_isRowWhole g rest a.2 J  ) rfl rfl (by decide +kernel) rfl (by decide) (Nat.le_of_ble_eq_true rfl) rfl ⟨Nat.zero_le _, Nat.zero_le _⟩ ?_
          refine EV_if_eq (off := 7) (tgt := 75) C (by decide +kernel) (by decide) (fun h4 => ?_) (fun h4 => ?_)
          · skip
            refine EV_blk (own := 4) C rfl [(.aload_n 1, 0, 0, 0, 0), (.getfield 28, 0, 1, 313, 0)] (pc' := 79) (by decide +kernel) (lv' := [some (.ref 115), some (.ref 111), some (.int a.1), none]) (st' := [.int (a.2 111 1)]) (I' := a.2) (J' := J) rfl ?_
            exact EV_iret C hZ rfl (by decide +kernel) (Nat.le_refl _) (Nat.le_refl _) ⟨tq_some (congrArg Prod.fst (hr.trans (show (d_fo1 L) a = ((a.2 111 1), a.2) from by simp only [d_fo1, if_pos h2, if_neg h3, if_pos h4]))).symm, rfl, rfl, (congrArg Prod.snd (hr.trans (show (d_fo1 L) a = ((a.2 111 1), a.2) from by simp only [d_fo1, if_pos h2, if_neg h3, if_pos h4]))).symm, rfl⟩
          · skip
            refine EV_blk (own := 4) C rfl [(.iconst (-1), 0, 0, 0, (-1)), (.goto 7, 0, 0, 0, 0)] (pc' := 79) (by decide +kernel) (lv' := [some (.ref 115), some (.ref 111), some (.int a.1), none]) (st' := [.int (-1)]) (I' := a.2) (J' := J) rfl ?_
            exact EV_iret C hZ rfl (by decide +kernel) (Nat.le_refl _) (Nat.le_refl _) ⟨tq_some (congrArg Prod.fst (hr.trans (show (d_fo1 L) a = ((-1), a.2) from by simp only [d_fo1, if_pos h2, if_neg h3, if_neg h4]))).symm, rfl, rfl, (congrArg Prod.snd (hr.trans (show (d_fo1 L) a = ((-1), a.2) from by simp only [d_fo1, if_pos h2, if_neg h3, if_neg h4]))).symm, rfl⟩
    · skip
      exact absurd (by rw [hI.2.2.2]; have := hI.2.1; simp (disch := omega) only [Int32.le_iff_toInt_le, nI_toInt]; omega) h1
  | succ n ih =>
    intro a hi hI hr
    refine EV_blk (own := 4) C rfl [(.iload_n 2, 0, 0, 0, 0), (.aload_n 1, 0, 0, 0, 0), (.getfield 28, 0, 1, 313, 0)] (pc' := 27) (by decide +kernel) (lv' := [some (.ref 115), some (.ref 111), some (.int a.1), none]) (st' := [.int (a.2 111 1), .int a.1]) (I' := a.2) (J' := J) rfl ?_
    refine EV_icmp_ge (off := 23) (tgt := 50) C (by decide +kernel) (by decide) (fun h1 => ?_) (fun h1 => ?_)
    · skip
      refine EV_blk (own := 4) C rfl [(.aload_n 0, 0, 0, 0, 0), (.getfield 25, 4, 4, 333, 0)] (pc' := 54) (by decide +kernel) (lv' := [some (.ref 115), some (.ref 111), some (.int a.1), none]) (st' := [.int (a.2 115 4)]) (I' := a.2) (J' := J) rfl ?_
      refine EV_if_ne (off := 21) (tgt := 75) C (by decide +kernel) (by decide) (fun h2 => ?_) (fun h2 => ?_)
      · skip
        refine EV_blk (own := 4) C rfl [(.aload_n 1, 0, 0, 0, 0), (.getfield 28, 0, 1, 313, 0)] (pc' := 79) (by decide +kernel) (lv' := [some (.ref 115), some (.ref 111), some (.int a.1), none]) (st' := [.int (a.2 111 1)]) (I' := a.2) (J' := J) rfl ?_
        exact EV_iret C hZ rfl (by decide +kernel) (Nat.le_refl _) (Nat.le_refl _) ⟨tq_some (congrArg Prod.fst (hr.trans ((tq_wr_x (show (f_fo1 L) a = .inr (.inr ()) from by simp only [f_fo1, if_pos h1])).trans (show (d_fo1 L) a = ((a.2 111 1), a.2) from by simp only [d_fo1, if_neg h2])))).symm, rfl, rfl, (congrArg Prod.snd (hr.trans ((tq_wr_x (show (f_fo1 L) a = .inr (.inr ()) from by simp only [f_fo1, if_pos h1])).trans (show (d_fo1 L) a = ((a.2 111 1), a.2) from by simp only [d_fo1, if_neg h2])))).symm, rfl⟩
      · skip
        refine EV_blk (own := 4) C rfl [(.aload_n 0, 0, 0, 0, 0), (.getfield 15, 4, 1, 328, 0)] (pc' := 61) (by decide +kernel) (lv' := [some (.ref 115), some (.ref 111), some (.int a.1), none]) (st' := [.int (a.2 115 1)]) (I' := a.2) (J' := J) rfl ?_
        refine EV_if_le (off := 14) (tgt := 75) C (by decide +kernel) (by decide) (fun h3 => ?_) (fun h3 => ?_)
        · skip
          refine EV_blk (own := 4) C rfl [(.aload_n 1, 0, 0, 0, 0), (.getfield 28, 0, 1, 313, 0)] (pc' := 79) (by decide +kernel) (lv' := [some (.ref 115), some (.ref 111), some (.int a.1), none]) (st' := [.int (a.2 111 1)]) (I' := a.2) (J' := J) rfl ?_
          exact EV_iret C hZ rfl (by decide +kernel) (Nat.le_refl _) (Nat.le_refl _) ⟨tq_some (congrArg Prod.fst (hr.trans ((tq_wr_x (show (f_fo1 L) a = .inr (.inr ()) from by simp only [f_fo1, if_pos h1])).trans (show (d_fo1 L) a = ((a.2 111 1), a.2) from by simp only [d_fo1, if_pos h2, if_pos h3])))).symm, rfl, rfl, (congrArg Prod.snd (hr.trans ((tq_wr_x (show (f_fo1 L) a = .inr (.inr ()) from by simp only [f_fo1, if_pos h1])).trans (show (d_fo1 L) a = ((a.2 111 1), a.2) from by simp only [d_fo1, if_pos h2, if_pos h3])))).symm, rfl⟩
        · skip
          refine EV_blk (own := 4) C rfl [(.aload_n 0, 0, 0, 0, 0)] (pc' := 65) (by decide +kernel) (lv' := [some (.ref 115), some (.ref 111), some (.int a.1), none]) (st' := [.ref 115]) (I' := a.2) (J' := J) rfl ?_
          refine EV_cV (own := 4) (idx := 37) (μ' := mX4_isRowWhole) (b := 115) (cb := 4) (av := []) (rest := []) C hR rfl (Or.inl ⟨826, by decide⟩) kX4_isRowWhole sX4_isRowWhole (c_X4_isRowWhole g rest a.2 J  ) rfl rfl (by decide +kernel) rfl (by decide) (Nat.le_of_ble_eq_true rfl) rfl ⟨Nat.zero_le _, Nat.zero_le _⟩ ?_
          refine EV_if_eq (off := 7) (tgt := 75) C (by decide +kernel) (by decide) (fun h4 => ?_) (fun h4 => ?_)
          · skip
            refine EV_blk (own := 4) C rfl [(.aload_n 1, 0, 0, 0, 0), (.getfield 28, 0, 1, 313, 0)] (pc' := 79) (by decide +kernel) (lv' := [some (.ref 115), some (.ref 111), some (.int a.1), none]) (st' := [.int (a.2 111 1)]) (I' := a.2) (J' := J) rfl ?_
            exact EV_iret C hZ rfl (by decide +kernel) (Nat.le_refl _) (Nat.le_refl _) ⟨tq_some (congrArg Prod.fst (hr.trans ((tq_wr_x (show (f_fo1 L) a = .inr (.inr ()) from by simp only [f_fo1, if_pos h1])).trans (show (d_fo1 L) a = ((a.2 111 1), a.2) from by simp only [d_fo1, if_pos h2, if_neg h3, if_pos h4])))).symm, rfl, rfl, (congrArg Prod.snd (hr.trans ((tq_wr_x (show (f_fo1 L) a = .inr (.inr ()) from by simp only [f_fo1, if_pos h1])).trans (show (d_fo1 L) a = ((a.2 111 1), a.2) from by simp only [d_fo1, if_pos h2, if_neg h3, if_pos h4])))).symm, rfl⟩
          · skip
            refine EV_blk (own := 4) C rfl [(.iconst (-1), 0, 0, 0, (-1)), (.goto 7, 0, 0, 0, 0)] (pc' := 79) (by decide +kernel) (lv' := [some (.ref 115), some (.ref 111), some (.int a.1), none]) (st' := [.int (-1)]) (I' := a.2) (J' := J) rfl ?_
            exact EV_iret C hZ rfl (by decide +kernel) (Nat.le_refl _) (Nat.le_refl _) ⟨tq_some (congrArg Prod.fst (hr.trans ((tq_wr_x (show (f_fo1 L) a = .inr (.inr ()) from by simp only [f_fo1, if_pos h1])).trans (show (d_fo1 L) a = ((-1), a.2) from by simp only [d_fo1, if_pos h2, if_neg h3, if_neg h4])))).symm, rfl, rfl, (congrArg Prod.snd (hr.trans ((tq_wr_x (show (f_fo1 L) a = .inr (.inr ()) from by simp only [f_fo1, if_pos h1])).trans (show (d_fo1 L) a = ((-1), a.2) from by simp only [d_fo1, if_pos h2, if_neg h3, if_neg h4])))).symm, rfl⟩
    · skip
      refine EV_blk (own := 4) C rfl [(.aload_n 0, 0, 0, 0, 0), (.aload_n 1, 0, 0, 0, 0), (.iload_n 2, 0, 0, 0, 0)] (pc' := 33) (by decide +kernel) (lv' := [some (.ref 115), some (.ref 111), some (.int a.1), none]) (st' := [.int a.1, .ref 111, .ref 115]) (I' := a.2) (J' := J) rfl ?_
      refine EV_ste (st' := [.int (nI (tq_N a.1)), .ref 111, .ref 115]) (by rw [← tq_nIN hI.1]) ?_
      have hlt : tq_N a.1 < L := by
        have hq := h1
        rw [hI.2.2.2] at hq
        simp (disch := omega) only [Int32.le_iff_toInt_le, nI_toInt] at hq
        exact tq_Nlt hI.1 (by omega)
      refine EV_cV (own := 4) (idx := 33) (μ' := mX4_accept) (b := 115) (cb := 4) (av := [.ref 111, .int (nI (tq_N a.1))]) (rest := []) C hR rfl (Or.inl ⟨810, by decide⟩) kX4_accept sX4_accept (c_X4_accept g rest a.2 J (tq_N a.1) L hlt hI.2.2.2 hL150 hI.2.2.1) rfl rfl (by decide +kernel) rfl (by decide) (Nat.le_of_ble_eq_true rfl) rfl ⟨Nat.zero_le _, Nat.zero_le _⟩ ?_
      refine EV_blk (own := 4) C rfl [(.istore_n 3, 0, 0, 0, 0), (.iload_n 3, 0, 0, 0, 0)] (pc' := 38) (by decide +kernel) (lv' := [some (.ref 115), some (.ref 111), some (.int a.1), some (.int (r_X4_accept a.2 (tq_N a.1) L))]) (st' := [.int (r_X4_accept a.2 (tq_N a.1) L)]) (I' := (I_X4_accept a.2 (tq_N a.1) L)) (J' := J) rfl ?_
      refine EV_if_gt (off := 5) (tgt := 43) C (by decide +kernel) (by decide) (fun hg => ?_) (fun hg => ?_)
      · skip
        refine EV_blk (own := 4) C rfl [(.iload_n 2, 0, 0, 0, 0), (.iload_n 3, 0, 0, 0, 0), (.iadd, 0, 0, 0, 0), (.istore_n 2, 0, 0, 0, 0), (.goto (-25), 0, 0, 0, 0)] (pc' := 22) (by decide +kernel) (lv' := [some (.ref 115), some (.ref 111), some (.int (a.1 + (r_X4_accept a.2 (tq_N a.1) L))), some (.int (r_X4_accept a.2 (tq_N a.1) L))]) (st' := []) (I' := (I_X4_accept a.2 (tq_N a.1) L)) (J' := J) rfl ?_
        refine EV_fg (lv' := [some (.ref 115), some (.ref 111), some (.int (a.1 + (r_X4_accept a.2 (tq_N a.1) L))), none]) ⟨rfl, rfl, rfl, trivial⟩ ?_
        exact ih ((a.1 + (r_X4_accept a.2 (tq_N a.1) L)), (I_X4_accept a.2 (tq_N a.1) L)) (by have := (tq_foP_step hL150 hI h1 hg).2; simp only; omega) (tq_foP_step hL150 hI h1 hg).1 (hr.trans (tq_wr_c (show (f_fo1 L) a = .inl ((a.1 + (r_X4_accept a.2 (tq_N a.1) L)), (I_X4_accept a.2 (tq_N a.1) L)) from by simp only [f_fo1, if_neg h1, if_pos hg])))
      · skip
        refine EV_blk (own := 4) C rfl [(.iload_n 2, 0, 0, 0, 0)] (pc' := 42) (by decide +kernel) (lv' := [some (.ref 115), some (.ref 111), some (.int a.1), some (.int (r_X4_accept a.2 (tq_N a.1) L))]) (st' := [.int a.1]) (I' := (I_X4_accept a.2 (tq_N a.1) L)) (J' := J) rfl ?_
        exact EV_iret C hZ rfl (by decide +kernel) (Nat.le_refl _) (Nat.le_refl _) ⟨tq_some (congrArg Prod.fst (hr.trans (tq_wr_r (show (f_fo1 L) a = .inr (.inl (a.1, (I_X4_accept a.2 (tq_N a.1) L))) from by simp only [f_fo1, if_neg h1, if_neg hg])))).symm, rfl, rfl, (congrArg Prod.snd (hr.trans (tq_wr_r (show (f_fo1 L) a = .inr (.inl (a.1, (I_X4_accept a.2 (tq_N a.1) L))) from by simp only [f_fo1, if_neg h1, if_neg hg])))).symm, rfl⟩
theorem tq_fo0 {I : tq_I} {L : Nat} (hL : I 111 1 = nI L) : tq_foP L (nI 0, tq_u (tq_u (tq_u (tq_u I 115 1 (nI 0)) 115 2 (nI 0)) 115 3 (nI 0)) 115 4 (nI 0)) := by
  refine ⟨by show 0 ≤ (nI 0).toInt; decide, by show (nI 0).toInt ≤ _; rw [nI_toInt (by decide)]; omega, ⟨?_, ?_, ?_, ?_⟩, hL⟩
  · show 0 ≤ (nI 0).toInt ∧ (nI 0).toInt ≤ 10
    decide
  · show 0 ≤ (nI 0).toInt ∧ (nI 0).toInt ≤ 11
    decide
  · show 0 ≤ (nI 0).toInt ∧ (nI 0).toInt ≤ 11
    decide
  · show 0 ≤ (nI 0).toInt ∧ (nI 0).toInt ≤ 11
    decide
def r_X4_faultOf (I : tq_I) (L : Nat) : Int32 := (tq_wr (f_fo1 L) (d_fo1 L) L ((nI 0), (tq_u (tq_u (tq_u (tq_u I 115 1 (nI 0)) 115 2 (nI 0)) 115 3 (nI 0)) 115 4 (nI 0)))).1
def I_X4_faultOf (I : tq_I) (L : Nat) : tq_I := (tq_wr (f_fo1 L) (d_fo1 L) L ((nI 0), (tq_u (tq_u (tq_u (tq_u I 115 1 (nI 0)) 115 2 (nI 0)) 115 3 (nI 0)) 115 4 (nI 0)))).2
set_option maxRecDepth 20000 in
theorem c_X4_faultOf (g : tq_G) (rest : List tq_S) (I : tq_I) (J : Int64) (L : Nat) (hL : I 111 1 = nI L) (hL150 : L ≤ 150) : CT g mX4_faultOf 4 0 0 [.ref 115, .ref 111] (tq_SC ++ rest) tq_RR I J (tq_ret (tq_SC ++ rest) tq_RR (some (.int (r_X4_faultOf I L))) (I_X4_faultOf I L) J) := by
  refine CT.ret kX4_faultOf (Nat.le_of_ble_eq_true rfl) (fun x0 C hR hZ => ?_)
  refine EV_en (lv' := [some (.ref 115), some (.ref 111), none, none]) 2 rfl ?_
  refine EV_blk (own := 4) C rfl [(.aload_n 0, 0, 0, 0, 0), (.iconst 0, 0, 0, 0, (nI 0)), (.putfield 15, 4, 1, 328, 0), (.aload_n 0, 0, 0, 0, 0), (.iconst 0, 0, 0, 0, (nI 0)), (.putfield 19, 4, 2, 330, 0), (.aload_n 0, 0, 0, 0, 0), (.iconst 0, 0, 0, 0, (nI 0)), (.putfield 22, 4, 3, 331, 0), (.aload_n 0, 0, 0, 0, 0), (.iconst 0, 0, 0, 0, (nI 0)), (.putfield 25, 4, 4, 333, 0), (.iconst 0, 0, 0, 0, (nI 0)), (.istore_n 2, 0, 0, 0, 0)] (pc' := 22) (by decide +kernel) (lv' := [some (.ref 115), some (.ref 111), some (.int (nI 0)), none]) (st' := []) (I' := (tq_u (tq_u (tq_u (tq_u I 115 1 (nI 0)) 115 2 (nI 0)) 115 3 (nI 0)) 115 4 (nI 0))) (J' := J) rfl ?_
  exact lp_fo1 C hR J hZ L hL150 L ((nI 0), (tq_u (tq_u (tq_u (tq_u I 115 1 (nI 0)) 115 2 (nI 0)) 115 3 (nI 0)) 115 4 (nI 0))) (by show (L : Int) ≤ (nI 0).toInt + L; rw [nI_toInt (by decide)]; omega) (tq_fo0 hL) (show (r_X4_faultOf I L, I_X4_faultOf I L) = (tq_wr (f_fo1 L) (d_fo1 L) L ((nI 0), (tq_u (tq_u (tq_u (tq_u I 115 1 (nI 0)) 115 2 (nI 0)) 115 3 (nI 0)) 115 4 (nI 0)))) from by simp only [r_X4_faultOf, I_X4_faultOf])
