theorem tr_var.cong {I K : tq_I} (h : tr_var I) (e : ∀ j, K 118 j = I 118 j) : tr_var K := fun t ht => by rw [e]; exact h t ht
def tr_fpQ (a : tq_I) (pm B i : Nat) : Prop := a 117 10 = nI pm ∧ (0 ≤ (a 117 15).toInt ∧ (a 117 15).toInt ≤ (B + i : Nat)) ∧ tr_var a
theorem tr_pinc {v : Int32} {B : Nat} (h : 0 ≤ v.toInt ∧ v.toInt ≤ (B : Int)) (hB : B < 1000) : 0 ≤ (v + nI 1).toInt ∧ (v + nI 1).toInt ≤ ((B + 1 : Nat) : Int) := by
  have e := tq_nIN h.1
  have h2 : tq_N v ≤ B := by unfold tq_N; omega
  generalize tq_N v = m at e h2
  subst e
  rw [nI_add, nI_toInt (by omega)]
  omega
theorem tr_fpQ.step {a : tq_I} {pm B i j : Nat} {v : Int32} (k : tr_fpQ a pm B i) (hB : B + i < 1000) : tr_fpQ (tq_u (tq_u a 127 j v) 117 15 ((tq_u a 127 j v) 117 15 + nI 1)) pm B (i + 1) := by
  refine ⟨?_, ?_, k.2.2.cong (fun q => by rw [tq_u_cell (by decide), tq_u_cell (by decide)])⟩
  · rw [tq_u_slot (by decide), tq_u_cell (by decide)]; exact k.1
  · rw [tq_u_same, tq_u_cell (by decide)]
    exact tr_pinc k.2.1 hB
theorem tr_fpm' (I : tq_I) (t mk : Nat) : (1 ≤ tq_N (I_X12_finds I t mk 117 10) ∧ tq_N (I_X12_finds I t mk 117 10) ≤ 4) ∧ I_X12_finds I t mk 117 10 = nI (tq_N (I_X12_finds I t mk 117 10)) := by
  obtain ⟨p, h1, h2, e⟩ := tr_fpm I t mk
  rw [e, tq_N_nI (by omega)]
  exact ⟨⟨h1, h2⟩, rfl⟩
def f_mfp1 (x y k t pm : Nat) (i : Nat) (a : tq_I) : tq_I := (if (r_X12_flipped (a 124 i) (r_X12_wayOf a t (a 124 i))) = (nI 15) then (tq_u (tq_u a 127 (tq_N (a 117 15)) ((((nI t) + ((nI 8) * (r_X12_flipped (a 124 i) (r_X12_wayOf a t (a 124 i))))) + ((nI 128) * (r_X12_wayOf a t (a 124 i)))) + ((nI 512) * (r_X12_variantOf a x y t)))) 117 15 (((tq_u a 127 (tq_N (a 117 15)) ((((nI t) + ((nI 8) * (r_X12_flipped (a 124 i) (r_X12_wayOf a t (a 124 i))))) + ((nI 128) * (r_X12_wayOf a t (a 124 i)))) + ((nI 512) * (r_X12_variantOf a x y t)))) 117 15) + (nI 1))) else (tq_u (tq_u a 127 (tq_N (a 117 15)) ((((nI t) + ((nI 8) * (r_X12_flipped (a 124 i) (r_X12_wayOf a t (a 124 i))))) + ((nI 128) * (r_X12_wayOf a t (a 124 i)))) + ((nI 512) * (nI 0)))) 117 15 (((tq_u a 127 (tq_N (a 117 15)) ((((nI t) + ((nI 8) * (r_X12_flipped (a 124 i) (r_X12_wayOf a t (a 124 i))))) + ((nI 128) * (r_X12_wayOf a t (a 124 i)))) + ((nI 512) * (nI 0)))) 117 15) + (nI 1))))
set_option maxRecDepth 20000 in
theorem lp_mfp1 {g : tq_G} {x0 : tq_X} (C : tq_C g mX12_findsPieces x0) (hR : tq_ht x0 4 0 0) (J : Int64) (x y k t pm : Nat) (ht : t ≤ 5) (hpm : pm ≤ 4) (hk : k < 4) : ∀ (n i : Nat) (a : tq_I), i + n = pm → tr_fpQ a pm (4 * k) i → EV g mX12_findsPieces x0 0 0 150 [some (.ref 117), some (.int (nI x)), some (.int (nI y)), some (.int (nI k)), some (.int (nI t)), some (.int (nI (i + n))), none, none, none] [] (tq_SC ++ tq_SR) tq_RR (tq_it (f_mfp1 x y k t pm) n i a) J → EV g mX12_findsPieces x0 0 0 44 [some (.ref 117), some (.int (nI x)), some (.int (nI y)), some (.int (nI k)), some (.int (nI t)), some (.int (nI i)), none, none, none] [] (tq_SC ++ tq_SR) tq_RR a J := by
  intro n
  induction n with
  | zero =>
    intro i a hi hI kk
    rw [Nat.add_zero] at kk
    refine EV_blk (own := 12) C rfl [(.iload 5, 0, 0, 0, 0), (.aload_n 0, 0, 0, 0, 0), (.getfield 133, 12, 10, 909, 0)] (pc' := 50) (by decide +kernel) (lv' := [some (.ref 117), some (.int (nI x)), some (.int (nI y)), some (.int (nI k)), some (.int (nI t)), some (.int (nI i)), none, none, none]) (st' := [.int (a 117 10), .int (nI i)]) (I' := a) (J' := J) rfl ?_
    refine EV_icmp_ge (off := 100) (tgt := 150) C (by decide +kernel) (by decide) (fun h1 => ?_) (fun h1 => ?_)
    · skip
      exact kk
    · skip
      exact absurd h1 (by simp (disch := omega) only [Int32.lt_iff_toInt_lt, Int32.le_iff_toInt_le, Int32.toInt_zero, nI_toInt, tq_m1, hI.1]; omega)
  | succ n ih =>
    intro i a hi hI kk
    rw [show i + (n + 1) = (i + 1) + n by omega] at kk
    refine EV_blk (own := 12) C rfl [(.iload 5, 0, 0, 0, 0), (.aload_n 0, 0, 0, 0, 0), (.getfield 133, 12, 10, 909, 0)] (pc' := 50) (by decide +kernel) (lv' := [some (.ref 117), some (.int (nI x)), some (.int (nI y)), some (.int (nI k)), some (.int (nI t)), some (.int (nI i)), none, none, none]) (st' := [.int (a 117 10), .int (nI i)]) (I' := a) (J' := J) rfl ?_
    refine EV_icmp_ge (off := 100) (tgt := 150) C (by decide +kernel) (by decide) (fun h1 => ?_) (fun h1 => ?_)
    · skip
      exact absurd h1 (by simp (disch := omega) only [Int32.lt_iff_toInt_lt, Int32.le_iff_toInt_le, Int32.toInt_zero, nI_toInt, tq_m1, hI.1]; omega)
    · skip
      refine EV_blk (own := 12) C rfl [(.aload_n 0, 0, 0, 0, 0), (.iload 4, 0, 0, 0, 0), (.aload_n 0, 0, 0, 0, 0), (.getfield 29, 12, 9, 908, 0), (.iload 5, 0, 0, 0, 0)] (pc' := 62) (by decide +kernel) (lv' := [some (.ref 117), some (.int (nI x)), some (.int (nI y)), some (.int (nI k)), some (.int (nI t)), some (.int (nI i)), none, none, none]) (st' := [.int (nI i), .ref 124, .int (nI t), .ref 117]) (I' := a) (J' := J) rfl ?_
      refine EV_iald (j := i) C (by decide +kernel) rfl (nI_toInt (by omega)) (by omega) ?_
      refine EV_cV (own := 12) (idx := 130) (μ' := mX12_wayOf) (b := 117) (cb := 12) (av := [.int (nI t), .int (a 124 i)]) (rest := []) C hR rfl (Or.inl ⟨1118, by decide⟩) kX12_wayOf sX12_wayOf (c_X12_wayOf g a J t (a 124 i) (by omega)) rfl rfl (by decide +kernel) rfl (by decide) (Nat.le_of_ble_eq_true rfl) rfl ⟨Nat.zero_le _, Nat.zero_le _⟩ ?_
      refine EV_blk (own := 12) C rfl [(.istore 6, 0, 0, 0, 0), (.aload_n 0, 0, 0, 0, 0), (.getfield 29, 12, 9, 908, 0), (.iload 5, 0, 0, 0, 0)] (pc' := 74) (by decide +kernel) (lv' := [some (.ref 117), some (.int (nI x)), some (.int (nI y)), some (.int (nI k)), some (.int (nI t)), some (.int (nI i)), some (.int (r_X12_wayOf a t (a 124 i))), none, none]) (st' := [.int (nI i), .ref 124]) (I' := a) (J' := J) rfl ?_
      refine EV_iald (j := i) C (by decide +kernel) rfl (nI_toInt (by omega)) (by omega) ?_
      refine EV_blk (own := 12) C rfl [(.iload 6, 0, 0, 0, 0)] (pc' := 77) (by decide +kernel) (lv' := [some (.ref 117), some (.int (nI x)), some (.int (nI y)), some (.int (nI k)), some (.int (nI t)), some (.int (nI i)), some (.int (r_X12_wayOf a t (a 124 i))), none, none]) (st' := [.int (r_X12_wayOf a t (a 124 i)), .int (a 124 i)]) (I' := a) (J' := J) rfl ?_
      refine EV_cS (own := 12) (idx := 127) (μ' := mX12_flipped) (av := [.int (a 124 i), .int (r_X12_wayOf a t (a 124 i))]) (rest := []) C hR rfl (Or.inl ⟨1122, by decide⟩) kX12_flipped sX12_flipped (c_X12_flipped g a J (a 124 i) (r_X12_wayOf a t (a 124 i)) ) (by decide +kernel) rfl (by decide) (Nat.le_of_ble_eq_true rfl) rfl ⟨Nat.zero_le _, Nat.zero_le _⟩ ?_
      refine EV_blk (own := 12) C rfl [(.istore 7, 0, 0, 0, 0), (.iload 7, 0, 0, 0, 0), (.bipush 15, 0, 0, 0, (nI 15))] (pc' := 86) (by decide +kernel) (lv' := [some (.ref 117), some (.int (nI x)), some (.int (nI y)), some (.int (nI k)), some (.int (nI t)), some (.int (nI i)), some (.int (r_X12_wayOf a t (a 124 i))), some (.int (r_X12_flipped (a 124 i) (r_X12_wayOf a t (a 124 i)))), none]) (st' := [.int (nI 15), .int (r_X12_flipped (a 124 i) (r_X12_wayOf a t (a 124 i)))]) (I' := a) (J' := J) rfl ?_
      refine EV_icmp_ne (off := 14) (tgt := 100) C (by decide +kernel) (by decide) (fun h2 => ?_) (fun h2 => ?_)
      · skip
        refine EV_blk (own := 12) C rfl [(.iconst 0, 0, 0, 0, (nI 0)), (.istore 8, 0, 0, 0, 0), (.aload_n 0, 0, 0, 0, 0), (.getfield 38, 12, 14, 913, 0), (.aload_n 0, 0, 0, 0, 0), (.getfield 152, 12, 15, 914, 0), (.iload 4, 0, 0, 0, 0), (.bipush 8, 0, 0, 0, (nI 8)), (.iload 7, 0, 0, 0, 0), (.imul, 0, 0, 0, 0), (.iadd, 0, 0, 0, 0), (.sipush 128, 0, 0, 0, (nI 128)), (.iload 6, 0, 0, 0, 0), (.imul, 0, 0, 0, 0), (.iadd, 0, 0, 0, 0), (.sipush 512, 0, 0, 0, (nI 512)), (.iload 8, 0, 0, 0, 0), (.imul, 0, 0, 0, 0), (.iadd, 0, 0, 0, 0)] (pc' := 133) (by decide +kernel) (lv' := [some (.ref 117), some (.int (nI x)), some (.int (nI y)), some (.int (nI k)), some (.int (nI t)), some (.int (nI i)), some (.int (r_X12_wayOf a t (a 124 i))), some (.int (r_X12_flipped (a 124 i) (r_X12_wayOf a t (a 124 i)))), some (.int (nI 0))]) (st' := [.int ((((nI t) + ((nI 8) * (r_X12_flipped (a 124 i) (r_X12_wayOf a t (a 124 i))))) + ((nI 128) * (r_X12_wayOf a t (a 124 i)))) + ((nI 512) * (nI 0))), .int (a 117 15), .ref 127]) (I' := a) (J' := J) rfl ?_
        refine EV_iast (j := (tq_N (a 117 15))) C (by decide +kernel) rfl (tq_NI hI.2.1.1) (tq_Nlt hI.2.1.1 (by have := hI.2.1.2; omega)) ?_
        refine EV_blk (own := 12) C rfl [(.aload_n 0, 0, 0, 0, 0), (.dup, 0, 0, 0, 0), (.getfield 152, 12, 15, 914, 0), (.iconst 1, 0, 0, 0, (nI 1)), (.iadd, 0, 0, 0, 0), (.putfield 152, 12, 15, 914, 0), (.iinc 5 1, 0, 0, 0, (nI 1)), (.goto (-103), 0, 0, 0, 0)] (pc' := 44) (by decide +kernel) (lv' := [some (.ref 117), some (.int (nI x)), some (.int (nI y)), some (.int (nI k)), some (.int (nI t)), some (.int ((nI i) + (nI 1))), some (.int (r_X12_wayOf a t (a 124 i))), some (.int (r_X12_flipped (a 124 i) (r_X12_wayOf a t (a 124 i)))), some (.int (nI 0))]) (st' := []) (I' := (tq_u (tq_u a 127 (tq_N (a 117 15)) ((((nI t) + ((nI 8) * (r_X12_flipped (a 124 i) (r_X12_wayOf a t (a 124 i))))) + ((nI 128) * (r_X12_wayOf a t (a 124 i)))) + ((nI 512) * (nI 0)))) 117 15 (((tq_u a 127 (tq_N (a 117 15)) ((((nI t) + ((nI 8) * (r_X12_flipped (a 124 i) (r_X12_wayOf a t (a 124 i))))) + ((nI 128) * (r_X12_wayOf a t (a 124 i)))) + ((nI 512) * (nI 0)))) 117 15) + (nI 1)))) (J' := J) rfl ?_
        refine EV_fg (lv' := [some (.ref 117), some (.int (nI x)), some (.int (nI y)), some (.int (nI k)), some (.int (nI t)), some (.int ((nI i) + (nI 1))), none, none, none]) ⟨rfl, rfl, rfl, rfl, rfl, rfl, trivial⟩ ?_
        rw [show ((nI i) + (nI 1)) = (nI (i + 1)) from by simp (disch := omega) only [nI_add, tq_mul] <;> exact congrArg nI (by omega)]
        rw [tq_its, show (f_mfp1 x y k t pm) i a = (tq_u (tq_u a 127 (tq_N (a 117 15)) ((((nI t) + ((nI 8) * (r_X12_flipped (a 124 i) (r_X12_wayOf a t (a 124 i))))) + ((nI 128) * (r_X12_wayOf a t (a 124 i)))) + ((nI 512) * (nI 0)))) 117 15 (((tq_u a 127 (tq_N (a 117 15)) ((((nI t) + ((nI 8) * (r_X12_flipped (a 124 i) (r_X12_wayOf a t (a 124 i))))) + ((nI 128) * (r_X12_wayOf a t (a 124 i)))) + ((nI 512) * (nI 0)))) 117 15) + (nI 1))) from by simp only [f_mfp1, if_neg h1, if_neg h2]] at kk
        exact ih (i + 1) (tq_u (tq_u a 127 (tq_N (a 117 15)) ((((nI t) + ((nI 8) * (r_X12_flipped (a 124 i) (r_X12_wayOf a t (a 124 i))))) + ((nI 128) * (r_X12_wayOf a t (a 124 i)))) + ((nI 512) * (nI 0)))) 117 15 (((tq_u a 127 (tq_N (a 117 15)) ((((nI t) + ((nI 8) * (r_X12_flipped (a 124 i) (r_X12_wayOf a t (a 124 i))))) + ((nI 128) * (r_X12_wayOf a t (a 124 i)))) + ((nI 512) * (nI 0)))) 117 15) + (nI 1))) (by omega) (hI.step (by omega)) kk
      · skip
        refine EV_blk (own := 12) C rfl [(.aload_n 0, 0, 0, 0, 0), (.iload_n 1, 0, 0, 0, 0), (.iload_n 2, 0, 0, 0, 0), (.iload 4, 0, 0, 0, 0)] (pc' := 94) (by decide +kernel) (lv' := [some (.ref 117), some (.int (nI x)), some (.int (nI y)), some (.int (nI k)), some (.int (nI t)), some (.int (nI i)), some (.int (r_X12_wayOf a t (a 124 i))), some (.int (r_X12_flipped (a 124 i) (r_X12_wayOf a t (a 124 i)))), none]) (st' := [.int (nI t), .int (nI y), .int (nI x), .ref 117]) (I' := a) (J' := J) rfl ?_
        refine EV_cV (own := 12) (idx := 155) (μ' := mX12_variantOf) (b := 117) (cb := 12) (av := [.int (nI x), .int (nI y), .int (nI t)]) (rest := []) C hR rfl (Or.inl ⟨1161, by decide⟩) kX12_variantOf sX12_variantOf (c_X12_variantOf g a J x y t (by omega) hI.2.2) rfl rfl (by decide +kernel) rfl (by decide) (Nat.le_of_ble_eq_true rfl) rfl ⟨Nat.zero_le _, Nat.zero_le _⟩ ?_
        refine EV_blk (own := 12) C rfl [(.goto 4, 0, 0, 0, 0), (.istore 8, 0, 0, 0, 0), (.aload_n 0, 0, 0, 0, 0), (.getfield 38, 12, 14, 913, 0), (.aload_n 0, 0, 0, 0, 0), (.getfield 152, 12, 15, 914, 0), (.iload 4, 0, 0, 0, 0), (.bipush 8, 0, 0, 0, (nI 8)), (.iload 7, 0, 0, 0, 0), (.imul, 0, 0, 0, 0), (.iadd, 0, 0, 0, 0), (.sipush 128, 0, 0, 0, (nI 128)), (.iload 6, 0, 0, 0, 0), (.imul, 0, 0, 0, 0), (.iadd, 0, 0, 0, 0), (.sipush 512, 0, 0, 0, (nI 512)), (.iload 8, 0, 0, 0, 0), (.imul, 0, 0, 0, 0), (.iadd, 0, 0, 0, 0)] (pc' := 133) (by decide +kernel) (lv' := [some (.ref 117), some (.int (nI x)), some (.int (nI y)), some (.int (nI k)), some (.int (nI t)), some (.int (nI i)), some (.int (r_X12_wayOf a t (a 124 i))), some (.int (r_X12_flipped (a 124 i) (r_X12_wayOf a t (a 124 i)))), some (.int (r_X12_variantOf a x y t))]) (st' := [.int ((((nI t) + ((nI 8) * (r_X12_flipped (a 124 i) (r_X12_wayOf a t (a 124 i))))) + ((nI 128) * (r_X12_wayOf a t (a 124 i)))) + ((nI 512) * (r_X12_variantOf a x y t))), .int (a 117 15), .ref 127]) (I' := a) (J' := J) rfl ?_
        refine EV_iast (j := (tq_N (a 117 15))) C (by decide +kernel) rfl (tq_NI hI.2.1.1) (tq_Nlt hI.2.1.1 (by have := hI.2.1.2; omega)) ?_
        refine EV_blk (own := 12) C rfl [(.aload_n 0, 0, 0, 0, 0), (.dup, 0, 0, 0, 0), (.getfield 152, 12, 15, 914, 0), (.iconst 1, 0, 0, 0, (nI 1)), (.iadd, 0, 0, 0, 0), (.putfield 152, 12, 15, 914, 0), (.iinc 5 1, 0, 0, 0, (nI 1)), (.goto (-103), 0, 0, 0, 0)] (pc' := 44) (by decide +kernel) (lv' := [some (.ref 117), some (.int (nI x)), some (.int (nI y)), some (.int (nI k)), some (.int (nI t)), some (.int ((nI i) + (nI 1))), some (.int (r_X12_wayOf a t (a 124 i))), some (.int (r_X12_flipped (a 124 i) (r_X12_wayOf a t (a 124 i)))), some (.int (r_X12_variantOf a x y t))]) (st' := []) (I' := (tq_u (tq_u a 127 (tq_N (a 117 15)) ((((nI t) + ((nI 8) * (r_X12_flipped (a 124 i) (r_X12_wayOf a t (a 124 i))))) + ((nI 128) * (r_X12_wayOf a t (a 124 i)))) + ((nI 512) * (r_X12_variantOf a x y t)))) 117 15 (((tq_u a 127 (tq_N (a 117 15)) ((((nI t) + ((nI 8) * (r_X12_flipped (a 124 i) (r_X12_wayOf a t (a 124 i))))) + ((nI 128) * (r_X12_wayOf a t (a 124 i)))) + ((nI 512) * (r_X12_variantOf a x y t)))) 117 15) + (nI 1)))) (J' := J) rfl ?_
        refine EV_fg (lv' := [some (.ref 117), some (.int (nI x)), some (.int (nI y)), some (.int (nI k)), some (.int (nI t)), some (.int ((nI i) + (nI 1))), none, none, none]) ⟨rfl, rfl, rfl, rfl, rfl, rfl, trivial⟩ ?_
        rw [show ((nI i) + (nI 1)) = (nI (i + 1)) from by simp (disch := omega) only [nI_add, tq_mul] <;> exact congrArg nI (by omega)]
        rw [tq_its, show (f_mfp1 x y k t pm) i a = (tq_u (tq_u a 127 (tq_N (a 117 15)) ((((nI t) + ((nI 8) * (r_X12_flipped (a 124 i) (r_X12_wayOf a t (a 124 i))))) + ((nI 128) * (r_X12_wayOf a t (a 124 i)))) + ((nI 512) * (r_X12_variantOf a x y t)))) 117 15 (((tq_u a 127 (tq_N (a 117 15)) ((((nI t) + ((nI 8) * (r_X12_flipped (a 124 i) (r_X12_wayOf a t (a 124 i))))) + ((nI 128) * (r_X12_wayOf a t (a 124 i)))) + ((nI 512) * (r_X12_variantOf a x y t)))) 117 15) + (nI 1))) from by simp only [f_mfp1, if_neg h1, if_pos h2]] at kk
        exact ih (i + 1) (tq_u (tq_u a 127 (tq_N (a 117 15)) ((((nI t) + ((nI 8) * (r_X12_flipped (a 124 i) (r_X12_wayOf a t (a 124 i))))) + ((nI 128) * (r_X12_wayOf a t (a 124 i)))) + ((nI 512) * (r_X12_variantOf a x y t)))) 117 15 (((tq_u a 127 (tq_N (a 117 15)) ((((nI t) + ((nI 8) * (r_X12_flipped (a 124 i) (r_X12_wayOf a t (a 124 i))))) + ((nI 128) * (r_X12_wayOf a t (a 124 i)))) + ((nI 512) * (r_X12_variantOf a x y t)))) 117 15) + (nI 1))) (by omega) (hI.step (by omega)) kk
theorem fr_mfp1 (x y k t pm : Nat) {cz : Nat} (hc : cz ≠ 117 ∧ cz ≠ 127) (n i : Nat) (a : tq_I) (jz : Nat) : (tq_it (f_mfp1 x y k t pm) n i a) cz jz = a cz jz := by
  obtain ⟨hc0, hc1⟩ := hc
  refine tq_itF (fun i a j => ?_) n i a jz
  simp only [f_mfp1]
  (repeat' split) <;> simp (disch := first | assumption | (simp only [ne_eq] at *; simp [*])) [tq_u, tq_cp, hc0, hc1, fr_X12_touches, fr_ta1, fr_X12_touchesAll, fr_cps1, fr_X12_copies, fr_sav, fr_bg1, fr_bg2, fr_X12_begins, fr_ly1, fr_X12_lays, fr_bgn1, fr_X12_begin, fr_X12_setCorner, fr_fi1, fr_X12_fill, fr_fg1, fr_X12_forgets, fr_rc1, fr_rc2, fr_X12_reaches, fr_mfl1, fr_X12_flood, fr_mrg1, fr_X12_regions, fr_mra1, fr_X12_raise, fr_sp1, fr_X12_setPath, fr_sr1, fr_sr2, fr_X12_setRank, fr_X12_becomes, fr_X12_setTiles, fr_X12_setVariants, fr_X12_setSeed, fr_X12_setBorder, fr_X12_makesUp, fr_X12_finds, fr_X12_parts, fr_put, fr_mfy2, fr_X12_findsLayers]
theorem tr_fpQ_it {x y k t pm : Nat} (hk : k < 4) (hpm : pm ≤ 4) : ∀ (n i : Nat) (a : tq_I), i + n = pm → tr_fpQ a pm (4 * k) i → tr_fpQ (tq_it (f_mfp1 x y k t pm) n i a) pm (4 * k) pm
  | 0, i, a, hi, q => by rw [show i = pm by omega] at q; exact q
  | n + 1, i, a, hi, q => by
    refine tr_fpQ_it hk hpm n (i + 1) _ (by omega) ?_
    unfold f_mfp1
    (repeat' split) <;> exact q.step (by omega)
def tr_fpR (a : tq_I) (w h c i : Nat) : Prop := tr_bas a w h ∧ a 117 13 = nI c ∧ (∀ q, q < c → (0 ≤ (a 125 q).toInt ∧ (a 125 q).toInt ≤ 5) ∧ 0 ≤ (a 126 q).toInt ∧ (a 126 q).toInt ≤ 15) ∧ (0 ≤ (a 117 15).toInt ∧ (a 117 15).toInt ≤ (4 * i : Nat))
theorem tr_fpR.q {a : tq_I} {w h c i t mk : Nat} (k : tr_fpR a w h c i) : tr_fpQ (I_X12_finds a t mk) (tq_N (I_X12_finds a t mk 117 10)) (4 * i) 0 := ⟨(tr_fpm' a t mk).2, by rw [fs_finds _ _ _ _ (by decide)]; exact k.2.2.2, k.1.2.2.2.cong (fun j => fr_X12_finds _ _ _ (by decide) j)⟩
theorem fs_mfp1 {x y k t pm : Nat} (n i : Nat) (a : tq_I) (j : Nat) (hj : j ≠ 15) : tq_it (f_mfp1 x y k t pm) n i a 117 j = a 117 j := by
  refine tq_itP (fun b => b 117 j = a 117 j) (fun i b hb => ?_) n i a rfl
  unfold f_mfp1
  (repeat' split) <;> (rw [tq_u_slot hj, tq_u_cell (by decide)]; exact hb)
theorem tr_fpR.step {a : tq_I} {x y w h c i t mk : Nat} (k : tr_fpR a w h c i) (hi : i < 4) : tr_fpR (tq_it (f_mfp1 x y i t (tq_N (I_X12_finds a t mk 117 10))) (tq_N (I_X12_finds a t mk 117 10)) 0 (I_X12_finds a t mk)) w h c (i + 1) := by
  have hpm := (tr_fpm' a t mk).1
  have hq := tr_fpQ_it (x := x) (y := y) (t := t) hi hpm.2 (tq_N (I_X12_finds a t mk 117 10)) 0 (I_X12_finds a t mk) (Nat.zero_add _) (k.q (t := t) (mk := mk))
  refine ⟨k.1.fr (fun j => by rw [fr_mfp1 _ _ _ _ _ (by decide), fr_X12_finds _ _ _ (by decide)]), ?_, fun q hqc => ?_, hq.2.1.1, ?_⟩
  · rw [fs_mfp1 _ _ _ _ (by decide), fs_finds _ _ _ _ (by decide)]; exact k.2.1
  · rw [fr_mfp1 _ _ _ _ _ (by decide), fr_mfp1 _ _ _ _ _ (by decide), fr_X12_finds _ _ _ (by decide), fr_X12_finds _ _ _ (by decide)]
    exact k.2.2.1 q hqc
  · have := hq.2.1.2
    omega
def f_mfp2 (x y c : Nat) (w h : Nat) (i : Nat) (a : tq_I) : tq_I := (tq_it (f_mfp1 x y i (tq_N (a 125 i)) (tq_N (I_X12_finds a (tq_N (a 125 i)) (tq_N (a 126 i)) 117 10))) (tq_N (I_X12_finds a (tq_N (a 125 i)) (tq_N (a 126 i)) 117 10)) 0 (I_X12_finds a (tq_N (a 125 i)) (tq_N (a 126 i))))
set_option maxRecDepth 20000 in
theorem lp_mfp2 {g : tq_G} {x0 : tq_X} (C : tq_C g mX12_findsPieces x0) (hR : tq_ht x0 4 0 0) (J : Int64) (x y c : Nat) (w h : Nat) (hc : c ≤ 4) : ∀ (n i : Nat) (a : tq_I), i + n = c → tr_fpR a w h c i → EV g mX12_findsPieces x0 0 0 156 [some (.ref 117), some (.int (nI x)), some (.int (nI y)), some (.int (nI (i + n))), none, none, none, none, none] [] (tq_SC ++ tq_SR) tq_RR (tq_it (f_mfp2 x y c w h) n i a) J → EV g mX12_findsPieces x0 0 0 13 [some (.ref 117), some (.int (nI x)), some (.int (nI y)), some (.int (nI i)), none, none, none, none, none] [] (tq_SC ++ tq_SR) tq_RR a J := by
  intro n
  induction n with
  | zero =>
    intro i a hi hI kk
    rw [Nat.add_zero] at kk
    refine EV_blk (own := 12) C rfl [(.iload_n 3, 0, 0, 0, 0), (.aload_n 0, 0, 0, 0, 0), (.getfield 142, 12, 13, 912, 0)] (pc' := 18) (by decide +kernel) (lv' := [some (.ref 117), some (.int (nI x)), some (.int (nI y)), some (.int (nI i)), none, none, none, none, none]) (st' := [.int (a 117 13), .int (nI i)]) (I' := a) (J' := J) rfl ?_
    refine EV_icmp_ge (off := 138) (tgt := 156) C (by decide +kernel) (by decide) (fun h1 => ?_) (fun h1 => ?_)
    · skip
      exact kk
    · skip
      exact absurd h1 (by simp (disch := omega) only [Int32.lt_iff_toInt_lt, Int32.le_iff_toInt_le, Int32.toInt_zero, nI_toInt, tq_m1, hI.2.1]; omega)
  | succ n ih =>
    intro i a hi hI kk
    rw [show i + (n + 1) = (i + 1) + n by omega] at kk
    refine EV_blk (own := 12) C rfl [(.iload_n 3, 0, 0, 0, 0), (.aload_n 0, 0, 0, 0, 0), (.getfield 142, 12, 13, 912, 0)] (pc' := 18) (by decide +kernel) (lv' := [some (.ref 117), some (.int (nI x)), some (.int (nI y)), some (.int (nI i)), none, none, none, none, none]) (st' := [.int (a 117 13), .int (nI i)]) (I' := a) (J' := J) rfl ?_
    refine EV_icmp_ge (off := 138) (tgt := 156) C (by decide +kernel) (by decide) (fun h1 => ?_) (fun h1 => ?_)
    · skip
      exact absurd h1 (by simp (disch := omega) only [Int32.lt_iff_toInt_lt, Int32.le_iff_toInt_le, Int32.toInt_zero, nI_toInt, tq_m1, hI.2.1]; omega)
    · skip
      refine EV_blk (own := 12) C rfl [(.aload_n 0, 0, 0, 0, 0), (.getfield 32, 12, 11, 910, 0), (.iload_n 3, 0, 0, 0, 0)] (pc' := 26) (by decide +kernel) (lv' := [some (.ref 117), some (.int (nI x)), some (.int (nI y)), some (.int (nI i)), none, none, none, none, none]) (st' := [.int (nI i), .ref 125]) (I' := a) (J' := J) rfl ?_
      refine EV_iald (j := i) C (by decide +kernel) rfl (nI_toInt (by omega)) (by omega) ?_
      refine EV_blk (own := 12) C rfl [(.istore 4, 0, 0, 0, 0)] (pc' := 29) (by decide +kernel) (lv' := [some (.ref 117), some (.int (nI x)), some (.int (nI y)), some (.int (nI i)), some (.int (a 125 i)), none, none, none, none]) (st' := []) (I' := a) (J' := J) rfl ?_
      have hl := hI.2.2.1 i (by omega)
      have ht5 : tq_N (a 125 i) ≤ 5 := by unfold tq_N; omega
      have hm15 : tq_N (a 126 i) ≤ 15 := by unfold tq_N; omega
      refine EV_lve (lv' := [some (.ref 117), some (.int (nI x)), some (.int (nI y)), some (.int (nI i)), some (.int (nI (tq_N (a 125 i)))), none, none, none, none]) (by rw [← tq_nIN hl.1.1]) ?_
      refine EV_blk (own := 12) C rfl [(.aload_n 0, 0, 0, 0, 0), (.iload 4, 0, 0, 0, 0), (.aload_n 0, 0, 0, 0, 0), (.getfield 35, 12, 12, 911, 0), (.iload_n 3, 0, 0, 0, 0)] (pc' := 37) (by decide +kernel) (lv' := [some (.ref 117), some (.int (nI x)), some (.int (nI y)), some (.int (nI i)), some (.int (nI (tq_N (a 125 i)))), none, none, none, none]) (st' := [.int (nI i), .ref 126, .int (nI (tq_N (a 125 i))), .ref 117]) (I' := a) (J' := J) rfl ?_
      refine EV_iald (j := i) C (by decide +kernel) rfl (nI_toInt (by omega)) (by omega) ?_
      refine EV_ste (st' := [.int (nI (tq_N (a 126 i))), .int (nI (tq_N (a 125 i))), .ref 117]) (by rw [← tq_nIN hl.2.1]) ?_
      refine EV_cV (own := 12) (idx := 139) (μ' := mX12_finds) (b := 117) (cb := 12) (av := [.int (nI (tq_N (a 125 i))), .int (nI (tq_N (a 126 i)))]) (rest := []) C hR rfl (Or.inl ⟨1129, by decide⟩) kX12_finds sX12_finds (c_X12_finds g a J (tq_N (a 125 i)) (tq_N (a 126 i)) (by omega) (by omega)) rfl rfl (by decide +kernel) rfl (by decide) (Nat.le_of_ble_eq_true rfl) rfl ⟨Nat.zero_le _, Nat.zero_le _⟩ ?_
      refine EV_blk (own := 12) C rfl [(.iconst 0, 0, 0, 0, (nI 0)), (.istore 5, 0, 0, 0, 0)] (pc' := 44) (by decide +kernel) (lv' := [some (.ref 117), some (.int (nI x)), some (.int (nI y)), some (.int (nI i)), some (.int (nI (tq_N (a 125 i)))), some (.int (nI 0)), none, none, none]) (st' := []) (I' := (I_X12_finds a (tq_N (a 125 i)) (tq_N (a 126 i)))) (J' := J) rfl ?_
      have hpm := (tr_fpm' a (tq_N (a 125 i)) (tq_N (a 126 i))).1
      refine lp_mfp1 C hR J x y i (tq_N (a 125 i)) (tq_N (I_X12_finds a (tq_N (a 125 i)) (tq_N (a 126 i)) 117 10)) ht5 hpm.2 (by omega) (tq_N (I_X12_finds a (tq_N (a 125 i)) (tq_N (a 126 i)) 117 10)) 0 (I_X12_finds a (tq_N (a 125 i)) (tq_N (a 126 i))) (by omega) hI.q ?_
      refine EV_blk (own := 12) C rfl [(.iinc 3 1, 0, 0, 0, (nI 1)), (.goto (-140), 0, 0, 0, 0)] (pc' := 13) (by decide +kernel) (lv' := [some (.ref 117), some (.int (nI x)), some (.int (nI y)), some (.int ((nI i) + (nI 1))), some (.int (nI (tq_N (a 125 i)))), some (.int (nI ((0 + (tq_N (I_X12_finds a (tq_N (a 125 i)) (tq_N (a 126 i)) 117 10)))))), none, none, none]) (st' := []) (I' := (tq_it (f_mfp1 x y i (tq_N (a 125 i)) (tq_N (I_X12_finds a (tq_N (a 125 i)) (tq_N (a 126 i)) 117 10))) (tq_N (I_X12_finds a (tq_N (a 125 i)) (tq_N (a 126 i)) 117 10)) 0 (I_X12_finds a (tq_N (a 125 i)) (tq_N (a 126 i))))) (J' := J) rfl ?_
      refine EV_fg (lv' := [some (.ref 117), some (.int (nI x)), some (.int (nI y)), some (.int ((nI i) + (nI 1))), none, none, none, none, none]) ⟨rfl, rfl, rfl, rfl, trivial⟩ ?_
      rw [show ((nI i) + (nI 1)) = (nI (i + 1)) from by simp (disch := omega) only [nI_add, tq_mul] <;> exact congrArg nI (by omega)]
      rw [tq_its, show (f_mfp2 x y c w h) i a = (tq_it (f_mfp1 x y i (tq_N (a 125 i)) (tq_N (I_X12_finds a (tq_N (a 125 i)) (tq_N (a 126 i)) 117 10))) (tq_N (I_X12_finds a (tq_N (a 125 i)) (tq_N (a 126 i)) 117 10)) 0 (I_X12_finds a (tq_N (a 125 i)) (tq_N (a 126 i)))) from by simp only [f_mfp2, if_neg h1]] at kk
      exact ih (i + 1) (tq_it (f_mfp1 x y i (tq_N (a 125 i)) (tq_N (I_X12_finds a (tq_N (a 125 i)) (tq_N (a 126 i)) 117 10))) (tq_N (I_X12_finds a (tq_N (a 125 i)) (tq_N (a 126 i)) 117 10)) 0 (I_X12_finds a (tq_N (a 125 i)) (tq_N (a 126 i)))) (by omega) (hI.step (by omega)) kk
theorem fr_mfp2 (x y c : Nat) (w h : Nat) {cz : Nat} (hc : cz ≠ 117 ∧ cz ≠ 124 ∧ cz ≠ 127) (n i : Nat) (a : tq_I) (jz : Nat) : (tq_it (f_mfp2 x y c w h) n i a) cz jz = a cz jz := by
  obtain ⟨hc0, hc1, hc2⟩ := hc
  refine tq_itF (fun i a j => ?_) n i a jz
  simp only [f_mfp2]
  (repeat' split) <;> simp (disch := first | assumption | (simp only [ne_eq] at *; simp [*])) [tq_u, tq_cp, hc0, hc1, hc2, fr_X12_touches, fr_ta1, fr_X12_touchesAll, fr_cps1, fr_X12_copies, fr_sav, fr_bg1, fr_bg2, fr_X12_begins, fr_ly1, fr_X12_lays, fr_bgn1, fr_X12_begin, fr_X12_setCorner, fr_fi1, fr_X12_fill, fr_fg1, fr_X12_forgets, fr_rc1, fr_rc2, fr_X12_reaches, fr_mfl1, fr_X12_flood, fr_mrg1, fr_X12_regions, fr_mra1, fr_X12_raise, fr_sp1, fr_X12_setPath, fr_sr1, fr_sr2, fr_X12_setRank, fr_X12_becomes, fr_X12_setTiles, fr_X12_setVariants, fr_X12_setSeed, fr_X12_setBorder, fr_X12_makesUp, fr_X12_finds, fr_X12_parts, fr_put, fr_mfy2, fr_X12_findsLayers, fr_mfp1]
theorem tr_fpR_it {x y w h c : Nat} (hc : c ≤ 4) : ∀ (n i : Nat) (a : tq_I), i + n = c → tr_fpR a w h c i → tr_fpR (tq_it (f_mfp2 x y c w h) n i a) w h c c
  | 0, i, a, hi, q => by rw [show i = c by omega] at q; exact q
  | n + 1, i, a, hi, q => tr_fpR_it hc n (i + 1) _ (by omega) (q.step (by omega))
theorem tr_fpR_0 {I : tq_I} {x y w h : Nat} (k : tr_bas I w h) : tr_fpR (tq_u (I_X12_findsLayers I x y w h) 117 15 (nI 0)) w h (tq_N (I_X12_findsLayers I x y w h 117 13)) 0 := by
  have hf := tr_flE (x := x) (y := y) k
  obtain ⟨c, hc, e, hq⟩ := hf.c4
  rw [e, tq_N_nI (by omega)]
  refine ⟨hf.1.fr (fun j => tq_u_cell (by decide)), ?_, fun q hqc => ?_, ?_⟩
  · rw [tq_u_slot (by decide)]; exact e
  · rw [tq_u_cell (by decide), tq_u_cell (by decide)]; exact hq q hqc
  · rw [tq_u_same]; decide
theorem tr_lm4 {I : tq_I} {x y w h : Nat} (k : tr_bas I w h) : tq_N (I_X12_findsLayers I x y w h 117 13) ≤ 4 := by
  obtain ⟨c, hc, e, hq⟩ := (tr_flE (x := x) (y := y) k).c4
  rw [e, tq_N_nI (by omega)]
  exact hc
def I_X12_findsPieces (I : tq_I) (x y : Nat) (w h : Nat) : tq_I := (tq_it (f_mfp2 x y (tq_N (I_X12_findsLayers I x y w h 117 13)) w h) (tq_N (I_X12_findsLayers I x y w h 117 13)) 0 (tq_u (I_X12_findsLayers I x y w h) 117 15 (nI 0)))
set_option maxRecDepth 20000 in
theorem c_X12_findsPieces (g : tq_G) (I : tq_I) (J : Int64) (x y : Nat) (w h : Nat) (hx : x ≤ 9) (hy : y ≤ 9) (k : tr_bas I w h) : CT g mX12_findsPieces 4 0 0 [.ref 117, .int (nI x), .int (nI y)] (tq_SC ++ tq_SR) tq_RR I J (tq_ret (tq_SC ++ tq_SR) tq_RR none (I_X12_findsPieces I x y w h) J) := by
  refine CT.ret kX12_findsPieces (Nat.le_of_ble_eq_true rfl) (fun x0 C hR hZ => ?_)
  refine EV_en (lv' := [some (.ref 117), some (.int (nI x)), some (.int (nI y)), none, none, none, none, none, none]) 6 rfl ?_
  refine EV_blk (own := 12) C rfl [(.aload_n 0, 0, 0, 0, 0), (.iload_n 1, 0, 0, 0, 0), (.iload_n 2, 0, 0, 0, 0)] (pc' := 3) (by decide +kernel) (lv' := [some (.ref 117), some (.int (nI x)), some (.int (nI y)), none, none, none, none, none, none]) (st' := [.int (nI y), .int (nI x), .ref 117]) (I' := I) (J' := J) rfl ?_
  refine EV_cV (own := 12) (idx := 149) (μ' := mX12_findsLayers) (b := 117) (cb := 12) (av := [.int (nI x), .int (nI y)]) (rest := []) C hR rfl (Or.inl ⟨1141, by decide⟩) kX12_findsLayers sX12_findsLayers (c_X12_findsLayers g I J x y w h (by omega) (by omega) k) rfl rfl (by decide +kernel) rfl (by decide) (Nat.le_of_ble_eq_true rfl) rfl ⟨Nat.zero_le _, Nat.zero_le _⟩ ?_
  refine EV_blk (own := 12) C rfl [(.aload_n 0, 0, 0, 0, 0), (.iconst 0, 0, 0, 0, (nI 0)), (.putfield 152, 12, 15, 914, 0), (.iconst 0, 0, 0, 0, (nI 0)), (.istore_n 3, 0, 0, 0, 0)] (pc' := 13) (by decide +kernel) (lv' := [some (.ref 117), some (.int (nI x)), some (.int (nI y)), some (.int (nI 0)), none, none, none, none, none]) (st' := []) (I' := (tq_u (I_X12_findsLayers I x y w h) 117 15 (nI 0))) (J' := J) rfl ?_
  refine lp_mfp2 C hR J x y (tq_N (I_X12_findsLayers I x y w h 117 13)) w h (tr_lm4 k) (tq_N (I_X12_findsLayers I x y w h 117 13)) 0 (tq_u (I_X12_findsLayers I x y w h) 117 15 (nI 0)) (by omega) (tr_fpR_0 k) ?_
  exact EV_vret C hZ rfl (by decide +kernel) (Nat.le_refl _) (Nat.le_refl _) ⟨rfl, rfl, rfl, by simp only [I_X12_findsPieces], rfl⟩
theorem fr_X12_findsPieces (I : tq_I) (x y : Nat) (w h : Nat) {cz : Nat} (hc : cz ≠ 117 ∧ cz ≠ 124 ∧ cz ≠ 125 ∧ cz ≠ 126 ∧ cz ≠ 127) (jz : Nat) : I_X12_findsPieces I x y w h cz jz = I cz jz := by
  obtain ⟨hc0, hc1, hc2, hc3, hc4⟩ := hc
  simp only [I_X12_findsPieces]
  (repeat' split) <;> simp (disch := first | assumption | (simp only [ne_eq] at *; simp [*])) [tq_u, tq_cp, hc0, hc1, hc2, hc3, hc4, fr_X12_touches, fr_ta1, fr_X12_touchesAll, fr_cps1, fr_X12_copies, fr_sav, fr_bg1, fr_bg2, fr_X12_begins, fr_ly1, fr_X12_lays, fr_bgn1, fr_X12_begin, fr_X12_setCorner, fr_fi1, fr_X12_fill, fr_fg1, fr_X12_forgets, fr_rc1, fr_rc2, fr_X12_reaches, fr_mfl1, fr_X12_flood, fr_mrg1, fr_X12_regions, fr_mra1, fr_X12_raise, fr_sp1, fr_X12_setPath, fr_sr1, fr_sr2, fr_X12_setRank, fr_X12_becomes, fr_X12_setTiles, fr_X12_setVariants, fr_X12_setSeed, fr_X12_setBorder, fr_X12_makesUp, fr_X12_finds, fr_X12_parts, fr_put, fr_mfy2, fr_X12_findsLayers, fr_mfp1, fr_mfp2]
theorem tr_fpE {I : tq_I} {x y w h : Nat} (k : tr_bas I w h) : tr_fpR (I_X12_findsPieces I x y w h) w h (tq_N (I_X12_findsLayers I x y w h 117 13)) (tq_N (I_X12_findsLayers I x y w h 117 13)) := tr_fpR_it (tr_lm4 k) _ 0 _ (by omega) (tr_fpR_0 k)
theorem tr_p16 {I : tq_I} {x y w h : Nat} (k : tr_bas I w h) : (0 ≤ (I_X12_findsPieces I x y w h 117 15).toInt ∧ (I_X12_findsPieces I x y w h 117 15).toInt ≤ 16) ∧ tq_N (I_X12_findsPieces I x y w h 117 15) ≤ 16 := by
  have h1 := (tr_fpE (x := x) (y := y) k).2.2.2
  have h2 := tr_lm4 (x := x) (y := y) k
  have h3 : (I_X12_findsPieces I x y w h 117 15).toInt ≤ 16 := by omega
  refine ⟨⟨h1.1, h3⟩, ?_⟩
  unfold tq_N
  omega
def r_X12_layers (I : tq_I) (x y : Int32) (w h : Nat) : Int32 := (if (tq_b (tr_cell I x y)) = 0 then (-2) else ((I_X12_findsLayers I (tq_N x) (tq_N y) w h) 117 13))
def I_X12_layers (I : tq_I) (x y : Int32) (w h : Nat) : tq_I := (if (tq_b (tr_cell I x y)) = 0 then I else (I_X12_findsLayers I (tq_N x) (tq_N y) w h))
set_option maxRecDepth 20000 in
theorem c_X12_layers (g : tq_G) (I : tq_I) (J : Int64) (x y : Int32) (w h : Nat) (k : tr_bas I w h)  : CT g mX12_layers 3 0 0 [.ref 117, .int x, .int y] (tq_SC ++ tq_SR) tq_RR I J (tq_ret (tq_SC ++ tq_SR) tq_RR (some (.int (r_X12_layers I x y w h))) (I_X12_layers I x y w h) J) := by
  refine CT.ret kX12_layers (Nat.le_of_ble_eq_true rfl) (fun x0 C hR hZ => ?_)
  refine EV_en (lv' := [some (.ref 117), some (.int x), some (.int y)]) 0 rfl ?_
  refine EV_blk (own := 12) C rfl [(.aload_n 0, 0, 0, 0, 0), (.iload_n 1, 0, 0, 0, 0), (.iload_n 2, 0, 0, 0, 0)] (pc' := 3) (by decide +kernel) (lv' := [some (.ref 117), some (.int x), some (.int y)]) (st' := [.int y, .int x, .ref 117]) (I' := I) (J' := J) rfl ?_
  refine EV_cV (own := 12) (idx := 66) (μ' := mX12_isCell) (b := 117) (cb := 12) (av := [.int x, .int y]) (rest := []) C hR rfl (Or.inl ⟨892, by decide⟩) kX12_isCell sX12_isCell (c_X12_isCell g I J x y ) rfl rfl (by decide +kernel) rfl (by decide) (Nat.le_of_ble_eq_true rfl) rfl ⟨Nat.zero_le _, Nat.zero_le _⟩ ?_
  refine EV_if_ne (off := 6) (tgt := 12) C (by decide +kernel) (by decide) (fun h1 => ?_) (fun h1 => ?_)
  · skip
    have hc := tq_b10 h1
    have hxy := tr_cell.ix k.1 hc
    have hw10 := k.1.2.2.2.1
    have hh10 := k.1.2.2.2.2.2
    refine EV_lve (lv' := [some (.ref 117), some (.int (nI (tq_N x))), some (.int (nI (tq_N y)))]) (by rw [← tq_nIN hxy.1, ← tq_nIN hxy.2.1]) ?_
    refine EV_blk (own := 12) C rfl [(.aload_n 0, 0, 0, 0, 0), (.iload_n 1, 0, 0, 0, 0), (.iload_n 2, 0, 0, 0, 0)] (pc' := 15) (by decide +kernel) (lv' := [some (.ref 117), some (.int (nI (tq_N x))), some (.int (nI (tq_N y)))]) (st' := [.int (nI (tq_N y)), .int (nI (tq_N x)), .ref 117]) (I' := I) (J' := J) rfl ?_
    refine EV_cV (own := 12) (idx := 149) (μ' := mX12_findsLayers) (b := 117) (cb := 12) (av := [.int (nI (tq_N x)), .int (nI (tq_N y))]) (rest := []) C hR rfl (Or.inl ⟨1141, by decide⟩) kX12_findsLayers sX12_findsLayers (c_X12_findsLayers g I J (tq_N x) (tq_N y) w h (by omega) (by omega) k) rfl rfl (by decide +kernel) rfl (by decide) (Nat.le_of_ble_eq_true rfl) rfl ⟨Nat.zero_le _, Nat.zero_le _⟩ ?_
    refine EV_blk (own := 12) C rfl [(.aload_n 0, 0, 0, 0, 0), (.getfield 142, 12, 13, 912, 0)] (pc' := 22) (by decide +kernel) (lv' := [some (.ref 117), some (.int (nI (tq_N x))), some (.int (nI (tq_N y)))]) (st' := [.int ((I_X12_findsLayers I (tq_N x) (tq_N y) w h) 117 13)]) (I' := (I_X12_findsLayers I (tq_N x) (tq_N y) w h)) (J' := J) rfl ?_
    exact EV_iret C hZ rfl (by decide +kernel) (Nat.le_refl _) (Nat.le_refl _) ⟨tq_some (by simp only [r_X12_layers, if_neg h1]), rfl, rfl, by simp only [I_X12_layers, if_neg h1], rfl⟩
  · skip
    refine EV_blk (own := 12) C rfl [(.bipush (-2), 0, 0, 0, (-2))] (pc' := 11) (by decide +kernel) (lv' := [some (.ref 117), some (.int x), some (.int y)]) (st' := [.int (-2)]) (I' := I) (J' := J) rfl ?_
    exact EV_iret C hZ rfl (by decide +kernel) (Nat.le_refl _) (Nat.le_refl _) ⟨tq_some (by simp only [r_X12_layers, if_pos h1]), rfl, rfl, by simp only [I_X12_layers, if_pos h1], rfl⟩
theorem fr_X12_layers (I : tq_I) (x y : Int32) (w h : Nat) {cz : Nat} (hc : cz ≠ 117 ∧ cz ≠ 125 ∧ cz ≠ 126) (jz : Nat) : I_X12_layers I x y w h cz jz = I cz jz := by
  obtain ⟨hc0, hc1, hc2⟩ := hc
  simp only [I_X12_layers]
  (repeat' split) <;> simp (disch := first | assumption | (simp only [ne_eq] at *; simp [*])) [tq_u, tq_cp, hc0, hc1, hc2, fr_X12_touches, fr_ta1, fr_X12_touchesAll, fr_cps1, fr_X12_copies, fr_sav, fr_bg1, fr_bg2, fr_X12_begins, fr_ly1, fr_X12_lays, fr_bgn1, fr_X12_begin, fr_X12_setCorner, fr_fi1, fr_X12_fill, fr_fg1, fr_X12_forgets, fr_rc1, fr_rc2, fr_X12_reaches, fr_mfl1, fr_X12_flood, fr_mrg1, fr_X12_regions, fr_mra1, fr_X12_raise, fr_sp1, fr_X12_setPath, fr_sr1, fr_sr2, fr_X12_setRank, fr_X12_becomes, fr_X12_setTiles, fr_X12_setVariants, fr_X12_setSeed, fr_X12_setBorder, fr_X12_makesUp, fr_X12_finds, fr_X12_parts, fr_put, fr_mfy2, fr_X12_findsLayers, fr_mfp1, fr_mfp2, fr_X12_findsPieces]
theorem tr_lyx {ly v : Int32} {m : Nat} (h : (nI 0).toInt ≤ ly.toInt ∧ ly.toInt ≤ (v - nI 1).toInt) (hv : 0 ≤ v.toInt ∧ v.toInt ≤ (m : Int)) (hm : m < 1000) : 0 ≤ ly.toInt ∧ tq_N ly < tq_N v ∧ tq_N ly < m := by
  have e0 : (nI 0).toInt = 0 := by decide
  have e := tq_nIN hv.1
  have h2 : tq_N v ≤ m := by unfold tq_N; omega
  rw [e0] at h
  generalize tq_N v = q at e h2
  subst e
  by_cases hq : q = 0
  · subst hq
    have : (nI 0 - nI 1).toInt = -1 := by decide
    omega
  · rw [tq_sub_nI (by omega), nI_toInt (by omega)] at h
    unfold tq_N
    omega
theorem tr_lm {I : tq_I} {x y w h : Nat} (k : tr_bas I w h) : 0 ≤ (I_X12_findsLayers I x y w h 117 13).toInt ∧ (I_X12_findsLayers I x y w h 117 13).toInt ≤ (4 : Nat) := by
  obtain ⟨c, hc, e, hq⟩ := (tr_flE (x := x) (y := y) k).c4
  rw [e, nI_toInt (by omega)]
  omega
def r_X12_layer (I : tq_I) (x y ly q : Int32) (w h : Nat) : Int32 := (if (tq_b (tr_cell I x y)) = 0 then (-2) else (if (tq_b ((nI 0).toInt ≤ ly.toInt ∧ ly.toInt ≤ (((I_X12_findsLayers I (tq_N x) (tq_N y) w h) 117 13) - (nI 1)).toInt)) = 0 then (-2) else (if q = 0 then ((I_X12_findsLayers I (tq_N x) (tq_N y) w h) 125 (tq_N ly)) else (if q = (nI 1) then ((I_X12_findsLayers I (tq_N x) (tq_N y) w h) 126 (tq_N ly)) else (-3)))))
def I_X12_layer (I : tq_I) (x y ly q : Int32) (w h : Nat) : tq_I := (if (tq_b (tr_cell I x y)) = 0 then I else (if (tq_b ((nI 0).toInt ≤ ly.toInt ∧ ly.toInt ≤ (((I_X12_findsLayers I (tq_N x) (tq_N y) w h) 117 13) - (nI 1)).toInt)) = 0 then (I_X12_findsLayers I (tq_N x) (tq_N y) w h) else (if q = 0 then (I_X12_findsLayers I (tq_N x) (tq_N y) w h) else (if q = (nI 1) then (I_X12_findsLayers I (tq_N x) (tq_N y) w h) else (I_X12_findsLayers I (tq_N x) (tq_N y) w h)))))
set_option maxRecDepth 20000 in
theorem c_X12_layer (g : tq_G) (I : tq_I) (J : Int64) (x y ly q : Int32) (w h : Nat) (k : tr_bas I w h)  : CT g mX12_layer 3 0 0 [.ref 117, .int x, .int y, .int ly, .int q] (tq_SC ++ tq_SR) tq_RR I J (tq_ret (tq_SC ++ tq_SR) tq_RR (some (.int (r_X12_layer I x y ly q w h))) (I_X12_layer I x y ly q w h) J) := by
  refine CT.ret kX12_layer (Nat.le_of_ble_eq_true rfl) (fun x0 C hR hZ => ?_)
  refine EV_en (lv' := [some (.ref 117), some (.int x), some (.int y), some (.int ly), some (.int q)]) 0 rfl ?_
  refine EV_blk (own := 12) C rfl [(.aload_n 0, 0, 0, 0, 0), (.iload_n 1, 0, 0, 0, 0), (.iload_n 2, 0, 0, 0, 0)] (pc' := 3) (by decide +kernel) (lv' := [some (.ref 117), some (.int x), some (.int y), some (.int ly), some (.int q)]) (st' := [.int y, .int x, .ref 117]) (I' := I) (J' := J) rfl ?_
  refine EV_cV (own := 12) (idx := 66) (μ' := mX12_isCell) (b := 117) (cb := 12) (av := [.int x, .int y]) (rest := []) C hR rfl (Or.inl ⟨892, by decide⟩) kX12_isCell sX12_isCell (c_X12_isCell g I J x y ) rfl rfl (by decide +kernel) rfl (by decide) (Nat.le_of_ble_eq_true rfl) rfl ⟨Nat.zero_le _, Nat.zero_le _⟩ ?_
  refine EV_if_ne (off := 6) (tgt := 12) C (by decide +kernel) (by decide) (fun h1 => ?_) (fun h1 => ?_)
  · skip
    have hc := tq_b10 h1
    have hxy := tr_cell.ix k.1 hc
    have hw10 := k.1.2.2.2.1
    have hh10 := k.1.2.2.2.2.2
    refine EV_lve (lv' := [some (.ref 117), some (.int (nI (tq_N x))), some (.int (nI (tq_N y))), some (.int ly), some (.int q)]) (by rw [← tq_nIN hxy.1, ← tq_nIN hxy.2.1]) ?_
    refine EV_blk (own := 12) C rfl [(.aload_n 0, 0, 0, 0, 0), (.iload_n 1, 0, 0, 0, 0), (.iload_n 2, 0, 0, 0, 0)] (pc' := 15) (by decide +kernel) (lv' := [some (.ref 117), some (.int (nI (tq_N x))), some (.int (nI (tq_N y))), some (.int ly), some (.int q)]) (st' := [.int (nI (tq_N y)), .int (nI (tq_N x)), .ref 117]) (I' := I) (J' := J) rfl ?_
    refine EV_cV (own := 12) (idx := 149) (μ' := mX12_findsLayers) (b := 117) (cb := 12) (av := [.int (nI (tq_N x)), .int (nI (tq_N y))]) (rest := []) C hR rfl (Or.inl ⟨1141, by decide⟩) kX12_findsLayers sX12_findsLayers (c_X12_findsLayers g I J (tq_N x) (tq_N y) w h (by omega) (by omega) k) rfl rfl (by decide +kernel) rfl (by decide) (Nat.le_of_ble_eq_true rfl) rfl ⟨Nat.zero_le _, Nat.zero_le _⟩ ?_
    refine EV_blk (own := 12) C rfl [(.iload_n 3, 0, 0, 0, 0), (.iconst 0, 0, 0, 0, (nI 0)), (.aload_n 0, 0, 0, 0, 0), (.getfield 142, 12, 13, 912, 0), (.iconst 1, 0, 0, 0, (nI 1)), (.isub, 0, 0, 0, 0)] (pc' := 26) (by decide +kernel) (lv' := [some (.ref 117), some (.int (nI (tq_N x))), some (.int (nI (tq_N y))), some (.int ly), some (.int q)]) (st' := [.int (((I_X12_findsLayers I (tq_N x) (tq_N y) w h) 117 13) - (nI 1)), .int (nI 0), .int ly]) (I' := (I_X12_findsLayers I (tq_N x) (tq_N y) w h)) (J' := J) rfl ?_
    refine EV_cS (own := 12) (idx := 62) (μ' := mX12_in) (av := [.int ly, .int (nI 0), .int (((I_X12_findsLayers I (tq_N x) (tq_N y) w h) 117 13) - (nI 1))]) (rest := []) C hR rfl (Or.inl ⟨896, by decide⟩) kX12_in sX12_in (c_X12_in g (I_X12_findsLayers I (tq_N x) (tq_N y) w h) J ly (nI 0) (((I_X12_findsLayers I (tq_N x) (tq_N y) w h) 117 13) - (nI 1)) ) (by decide +kernel) rfl (by decide) (Nat.le_of_ble_eq_true rfl) rfl ⟨Nat.zero_le _, Nat.zero_le _⟩ ?_
    refine EV_if_ne (off := 6) (tgt := 35) C (by decide +kernel) (by decide) (fun h2 => ?_) (fun h2 => ?_)
    · skip
      have hl := tr_lyx (tq_b10 h2) (tr_lm k) (by decide)
      refine EV_blk (own := 12) C rfl [(.iload 4, 0, 0, 0, 0)] (pc' := 37) (by decide +kernel) (lv' := [some (.ref 117), some (.int (nI (tq_N x))), some (.int (nI (tq_N y))), some (.int ly), some (.int q)]) (st' := [.int q]) (I' := (I_X12_findsLayers I (tq_N x) (tq_N y) w h)) (J' := J) rfl ?_
      refine EV_if_ne (off := 12) (tgt := 49) C (by decide +kernel) (by decide) (fun h3 => ?_) (fun h3 => ?_)
      · skip
        refine EV_blk (own := 12) C rfl [(.iload 4, 0, 0, 0, 0), (.iconst 1, 0, 0, 0, (nI 1))] (pc' := 52) (by decide +kernel) (lv' := [some (.ref 117), some (.int (nI (tq_N x))), some (.int (nI (tq_N y))), some (.int ly), some (.int q)]) (st' := [.int (nI 1), .int q]) (I' := (I_X12_findsLayers I (tq_N x) (tq_N y) w h)) (J' := J) rfl ?_
        refine EV_icmp_ne (off := 12) (tgt := 64) C (by decide +kernel) (by decide) (fun h4 => ?_) (fun h4 => ?_)
        · skip
          refine EV_blk (own := 12) C rfl [(.bipush (-3), 0, 0, 0, (-3))] (pc' := 66) (by decide +kernel) (lv' := [some (.ref 117), some (.int (nI (tq_N x))), some (.int (nI (tq_N y))), some (.int ly), some (.int q)]) (st' := [.int (-3)]) (I' := (I_X12_findsLayers I (tq_N x) (tq_N y) w h)) (J' := J) rfl ?_
          exact EV_iret C hZ rfl (by decide +kernel) (Nat.le_refl _) (Nat.le_refl _) ⟨tq_some (by simp only [r_X12_layer, if_neg h1, if_neg h2, if_neg h3, if_neg h4]), rfl, rfl, by simp only [I_X12_layer, if_neg h1, if_neg h2, if_neg h3, if_neg h4], rfl⟩
        · skip
          refine EV_blk (own := 12) C rfl [(.aload_n 0, 0, 0, 0, 0), (.getfield 35, 12, 12, 911, 0), (.iload_n 3, 0, 0, 0, 0)] (pc' := 60) (by decide +kernel) (lv' := [some (.ref 117), some (.int (nI (tq_N x))), some (.int (nI (tq_N y))), some (.int ly), some (.int q)]) (st' := [.int ly, .ref 126]) (I' := (I_X12_findsLayers I (tq_N x) (tq_N y) w h)) (J' := J) rfl ?_
          refine EV_iald (j := (tq_N ly)) C (by decide +kernel) rfl (tq_NI hl.1) (by omega) ?_
          refine EV_blk (own := 12) C rfl [(.goto 5, 0, 0, 0, 0)] (pc' := 66) (by decide +kernel) (lv' := [some (.ref 117), some (.int (nI (tq_N x))), some (.int (nI (tq_N y))), some (.int ly), some (.int q)]) (st' := [.int ((I_X12_findsLayers I (tq_N x) (tq_N y) w h) 126 (tq_N ly))]) (I' := (I_X12_findsLayers I (tq_N x) (tq_N y) w h)) (J' := J) rfl ?_
          exact EV_iret C hZ rfl (by decide +kernel) (Nat.le_refl _) (Nat.le_refl _) ⟨tq_some (by simp only [r_X12_layer, if_neg h1, if_neg h2, if_neg h3, if_pos h4]), rfl, rfl, by simp only [I_X12_layer, if_neg h1, if_neg h2, if_neg h3, if_pos h4], rfl⟩
      · skip
        refine EV_blk (own := 12) C rfl [(.aload_n 0, 0, 0, 0, 0), (.getfield 32, 12, 11, 910, 0), (.iload_n 3, 0, 0, 0, 0)] (pc' := 45) (by decide +kernel) (lv' := [some (.ref 117), some (.int (nI (tq_N x))), some (.int (nI (tq_N y))), some (.int ly), some (.int q)]) (st' := [.int ly, .ref 125]) (I' := (I_X12_findsLayers I (tq_N x) (tq_N y) w h)) (J' := J) rfl ?_
        refine EV_iald (j := (tq_N ly)) C (by decide +kernel) rfl (tq_NI hl.1) (by omega) ?_
        refine EV_blk (own := 12) C rfl [(.goto 20, 0, 0, 0, 0)] (pc' := 66) (by decide +kernel) (lv' := [some (.ref 117), some (.int (nI (tq_N x))), some (.int (nI (tq_N y))), some (.int ly), some (.int q)]) (st' := [.int ((I_X12_findsLayers I (tq_N x) (tq_N y) w h) 125 (tq_N ly))]) (I' := (I_X12_findsLayers I (tq_N x) (tq_N y) w h)) (J' := J) rfl ?_
        exact EV_iret C hZ rfl (by decide +kernel) (Nat.le_refl _) (Nat.le_refl _) ⟨tq_some (by simp only [r_X12_layer, if_neg h1, if_neg h2, if_pos h3]), rfl, rfl, by simp only [I_X12_layer, if_neg h1, if_neg h2, if_pos h3], rfl⟩
    · skip
      refine EV_blk (own := 12) C rfl [(.bipush (-2), 0, 0, 0, (-2))] (pc' := 34) (by decide +kernel) (lv' := [some (.ref 117), some (.int (nI (tq_N x))), some (.int (nI (tq_N y))), some (.int ly), some (.int q)]) (st' := [.int (-2)]) (I' := (I_X12_findsLayers I (tq_N x) (tq_N y) w h)) (J' := J) rfl ?_
      exact EV_iret C hZ rfl (by decide +kernel) (Nat.le_refl _) (Nat.le_refl _) ⟨tq_some (by simp only [r_X12_layer, if_neg h1, if_pos h2]), rfl, rfl, by simp only [I_X12_layer, if_neg h1, if_pos h2], rfl⟩
  · skip
    refine EV_blk (own := 12) C rfl [(.bipush (-2), 0, 0, 0, (-2))] (pc' := 11) (by decide +kernel) (lv' := [some (.ref 117), some (.int x), some (.int y), some (.int ly), some (.int q)]) (st' := [.int (-2)]) (I' := I) (J' := J) rfl ?_
    exact EV_iret C hZ rfl (by decide +kernel) (Nat.le_refl _) (Nat.le_refl _) ⟨tq_some (by simp only [r_X12_layer, if_pos h1]), rfl, rfl, by simp only [I_X12_layer, if_pos h1], rfl⟩
theorem fr_X12_layer (I : tq_I) (x y ly q : Int32) (w h : Nat) {cz : Nat} (hc : cz ≠ 117 ∧ cz ≠ 125 ∧ cz ≠ 126) (jz : Nat) : I_X12_layer I x y ly q w h cz jz = I cz jz := by
  obtain ⟨hc0, hc1, hc2⟩ := hc
  simp only [I_X12_layer]
  (repeat' split) <;> simp (disch := first | assumption | (simp only [ne_eq] at *; simp [*])) [tq_u, tq_cp, hc0, hc1, hc2, fr_X12_touches, fr_ta1, fr_X12_touchesAll, fr_cps1, fr_X12_copies, fr_sav, fr_bg1, fr_bg2, fr_X12_begins, fr_ly1, fr_X12_lays, fr_bgn1, fr_X12_begin, fr_X12_setCorner, fr_fi1, fr_X12_fill, fr_fg1, fr_X12_forgets, fr_rc1, fr_rc2, fr_X12_reaches, fr_mfl1, fr_X12_flood, fr_mrg1, fr_X12_regions, fr_mra1, fr_X12_raise, fr_sp1, fr_X12_setPath, fr_sr1, fr_sr2, fr_X12_setRank, fr_X12_becomes, fr_X12_setTiles, fr_X12_setVariants, fr_X12_setSeed, fr_X12_setBorder, fr_X12_makesUp, fr_X12_finds, fr_X12_parts, fr_put, fr_mfy2, fr_X12_findsLayers, fr_mfp1, fr_mfp2, fr_X12_findsPieces, fr_X12_layers]
def r_X12_pieces (I : tq_I) (x y : Int32) (w h : Nat) : Int32 := (if (tq_b (tr_cell I x y)) = 0 then (-2) else ((I_X12_findsPieces I (tq_N x) (tq_N y) w h) 117 15))
def I_X12_pieces (I : tq_I) (x y : Int32) (w h : Nat) : tq_I := (if (tq_b (tr_cell I x y)) = 0 then I else (I_X12_findsPieces I (tq_N x) (tq_N y) w h))
set_option maxRecDepth 20000 in
theorem c_X12_pieces (g : tq_G) (I : tq_I) (J : Int64) (x y : Int32) (w h : Nat) (k : tr_bas I w h)  : CT g mX12_pieces 5 0 0 [.ref 117, .int x, .int y] (tq_SC ++ tq_SR) tq_RR I J (tq_ret (tq_SC ++ tq_SR) tq_RR (some (.int (r_X12_pieces I x y w h))) (I_X12_pieces I x y w h) J) := by
  refine CT.ret kX12_pieces (Nat.le_of_ble_eq_true rfl) (fun x0 C hR hZ => ?_)
  refine EV_en (lv' := [some (.ref 117), some (.int x), some (.int y)]) 0 rfl ?_
  refine EV_blk (own := 12) C rfl [(.aload_n 0, 0, 0, 0, 0), (.iload_n 1, 0, 0, 0, 0), (.iload_n 2, 0, 0, 0, 0)] (pc' := 3) (by decide +kernel) (lv' := [some (.ref 117), some (.int x), some (.int y)]) (st' := [.int y, .int x, .ref 117]) (I' := I) (J' := J) rfl ?_
  refine EV_cV (own := 12) (idx := 66) (μ' := mX12_isCell) (b := 117) (cb := 12) (av := [.int x, .int y]) (rest := []) C hR rfl (Or.inl ⟨892, by decide⟩) kX12_isCell sX12_isCell (c_X12_isCell g I J x y ) rfl rfl (by decide +kernel) rfl (by decide) (Nat.le_of_ble_eq_true rfl) rfl ⟨Nat.zero_le _, Nat.zero_le _⟩ ?_
  refine EV_if_ne (off := 6) (tgt := 12) C (by decide +kernel) (by decide) (fun h1 => ?_) (fun h1 => ?_)
  · skip
    have hc := tq_b10 h1
    have hxy := tr_cell.ix k.1 hc
    have hw10 := k.1.2.2.2.1
    have hh10 := k.1.2.2.2.2.2
    refine EV_lve (lv' := [some (.ref 117), some (.int (nI (tq_N x))), some (.int (nI (tq_N y)))]) (by rw [← tq_nIN hxy.1, ← tq_nIN hxy.2.1]) ?_
    refine EV_blk (own := 12) C rfl [(.aload_n 0, 0, 0, 0, 0), (.iload_n 1, 0, 0, 0, 0), (.iload_n 2, 0, 0, 0, 0)] (pc' := 15) (by decide +kernel) (lv' := [some (.ref 117), some (.int (nI (tq_N x))), some (.int (nI (tq_N y)))]) (st' := [.int (nI (tq_N y)), .int (nI (tq_N x)), .ref 117]) (I' := I) (J' := J) rfl ?_
    refine EV_cV (own := 12) (idx := 158) (μ' := mX12_findsPieces) (b := 117) (cb := 12) (av := [.int (nI (tq_N x)), .int (nI (tq_N y))]) (rest := []) C hR rfl (Or.inl ⟨1157, by decide⟩) kX12_findsPieces sX12_findsPieces (c_X12_findsPieces g I J (tq_N x) (tq_N y) w h (by omega) (by omega) k) rfl rfl (by decide +kernel) rfl (by decide) (Nat.le_of_ble_eq_true rfl) rfl ⟨Nat.zero_le _, Nat.zero_le _⟩ ?_
    refine EV_blk (own := 12) C rfl [(.aload_n 0, 0, 0, 0, 0), (.getfield 152, 12, 15, 914, 0)] (pc' := 22) (by decide +kernel) (lv' := [some (.ref 117), some (.int (nI (tq_N x))), some (.int (nI (tq_N y)))]) (st' := [.int ((I_X12_findsPieces I (tq_N x) (tq_N y) w h) 117 15)]) (I' := (I_X12_findsPieces I (tq_N x) (tq_N y) w h)) (J' := J) rfl ?_
    exact EV_iret C hZ rfl (by decide +kernel) (Nat.le_refl _) (Nat.le_refl _) ⟨tq_some (by simp only [r_X12_pieces, if_neg h1]), rfl, rfl, by simp only [I_X12_pieces, if_neg h1], rfl⟩
  · skip
    refine EV_blk (own := 12) C rfl [(.bipush (-2), 0, 0, 0, (-2))] (pc' := 11) (by decide +kernel) (lv' := [some (.ref 117), some (.int x), some (.int y)]) (st' := [.int (-2)]) (I' := I) (J' := J) rfl ?_
    exact EV_iret C hZ rfl (by decide +kernel) (Nat.le_refl _) (Nat.le_refl _) ⟨tq_some (by simp only [r_X12_pieces, if_pos h1]), rfl, rfl, by simp only [I_X12_pieces, if_pos h1], rfl⟩
theorem fr_X12_pieces (I : tq_I) (x y : Int32) (w h : Nat) {cz : Nat} (hc : cz ≠ 117 ∧ cz ≠ 124 ∧ cz ≠ 125 ∧ cz ≠ 126 ∧ cz ≠ 127) (jz : Nat) : I_X12_pieces I x y w h cz jz = I cz jz := by
  obtain ⟨hc0, hc1, hc2, hc3, hc4⟩ := hc
  simp only [I_X12_pieces]
  (repeat' split) <;> simp (disch := first | assumption | (simp only [ne_eq] at *; simp [*])) [tq_u, tq_cp, hc0, hc1, hc2, hc3, hc4, fr_X12_touches, fr_ta1, fr_X12_touchesAll, fr_cps1, fr_X12_copies, fr_sav, fr_bg1, fr_bg2, fr_X12_begins, fr_ly1, fr_X12_lays, fr_bgn1, fr_X12_begin, fr_X12_setCorner, fr_fi1, fr_X12_fill, fr_fg1, fr_X12_forgets, fr_rc1, fr_rc2, fr_X12_reaches, fr_mfl1, fr_X12_flood, fr_mrg1, fr_X12_regions, fr_mra1, fr_X12_raise, fr_sp1, fr_X12_setPath, fr_sr1, fr_sr2, fr_X12_setRank, fr_X12_becomes, fr_X12_setTiles, fr_X12_setVariants, fr_X12_setSeed, fr_X12_setBorder, fr_X12_makesUp, fr_X12_finds, fr_X12_parts, fr_put, fr_mfy2, fr_X12_findsLayers, fr_mfp1, fr_mfp2, fr_X12_findsPieces, fr_X12_layers, fr_X12_layer]
def r_X12_piece (I : tq_I) (x y ly q : Int32) (w h : Nat) : Int32 := (if (tq_b (tr_cell I x y)) = 0 then (-2) else (if (tq_b ((nI 0).toInt ≤ ly.toInt ∧ ly.toInt ≤ (((I_X12_findsPieces I (tq_N x) (tq_N y) w h) 117 15) - (nI 1)).toInt)) = 0 then (-2) else (if (tq_b ((nI 0).toInt ≤ q.toInt ∧ q.toInt ≤ (nI 3).toInt)) = 0 then (-3) else (r_X12_ofPiece ((I_X12_findsPieces I (tq_N x) (tq_N y) w h) 127 (tq_N ly)) q))))
def I_X12_piece (I : tq_I) (x y ly q : Int32) (w h : Nat) : tq_I := (if (tq_b (tr_cell I x y)) = 0 then I else (if (tq_b ((nI 0).toInt ≤ ly.toInt ∧ ly.toInt ≤ (((I_X12_findsPieces I (tq_N x) (tq_N y) w h) 117 15) - (nI 1)).toInt)) = 0 then (I_X12_findsPieces I (tq_N x) (tq_N y) w h) else (if (tq_b ((nI 0).toInt ≤ q.toInt ∧ q.toInt ≤ (nI 3).toInt)) = 0 then (I_X12_findsPieces I (tq_N x) (tq_N y) w h) else (I_X12_findsPieces I (tq_N x) (tq_N y) w h))))
set_option maxRecDepth 20000 in
theorem c_X12_piece (g : tq_G) (I : tq_I) (J : Int64) (x y ly q : Int32) (w h : Nat) (k : tr_bas I w h)  : CT g mX12_piece 5 0 0 [.ref 117, .int x, .int y, .int ly, .int q] (tq_SC ++ tq_SR) tq_RR I J (tq_ret (tq_SC ++ tq_SR) tq_RR (some (.int (r_X12_piece I x y ly q w h))) (I_X12_piece I x y ly q w h) J) := by
  refine CT.ret kX12_piece (Nat.le_of_ble_eq_true rfl) (fun x0 C hR hZ => ?_)
  refine EV_en (lv' := [some (.ref 117), some (.int x), some (.int y), some (.int ly), some (.int q)]) 0 rfl ?_
  refine EV_blk (own := 12) C rfl [(.aload_n 0, 0, 0, 0, 0), (.iload_n 1, 0, 0, 0, 0), (.iload_n 2, 0, 0, 0, 0)] (pc' := 3) (by decide +kernel) (lv' := [some (.ref 117), some (.int x), some (.int y), some (.int ly), some (.int q)]) (st' := [.int y, .int x, .ref 117]) (I' := I) (J' := J) rfl ?_
  refine EV_cV (own := 12) (idx := 66) (μ' := mX12_isCell) (b := 117) (cb := 12) (av := [.int x, .int y]) (rest := []) C hR rfl (Or.inl ⟨892, by decide⟩) kX12_isCell sX12_isCell (c_X12_isCell g I J x y ) rfl rfl (by decide +kernel) rfl (by decide) (Nat.le_of_ble_eq_true rfl) rfl ⟨Nat.zero_le _, Nat.zero_le _⟩ ?_
  refine EV_if_ne (off := 6) (tgt := 12) C (by decide +kernel) (by decide) (fun h1 => ?_) (fun h1 => ?_)
  · skip
    have hc := tq_b10 h1
    have hxy := tr_cell.ix k.1 hc
    have hw10 := k.1.2.2.2.1
    have hh10 := k.1.2.2.2.2.2
    refine EV_lve (lv' := [some (.ref 117), some (.int (nI (tq_N x))), some (.int (nI (tq_N y))), some (.int ly), some (.int q)]) (by rw [← tq_nIN hxy.1, ← tq_nIN hxy.2.1]) ?_
    refine EV_blk (own := 12) C rfl [(.aload_n 0, 0, 0, 0, 0), (.iload_n 1, 0, 0, 0, 0), (.iload_n 2, 0, 0, 0, 0)] (pc' := 15) (by decide +kernel) (lv' := [some (.ref 117), some (.int (nI (tq_N x))), some (.int (nI (tq_N y))), some (.int ly), some (.int q)]) (st' := [.int (nI (tq_N y)), .int (nI (tq_N x)), .ref 117]) (I' := I) (J' := J) rfl ?_
    refine EV_cV (own := 12) (idx := 158) (μ' := mX12_findsPieces) (b := 117) (cb := 12) (av := [.int (nI (tq_N x)), .int (nI (tq_N y))]) (rest := []) C hR rfl (Or.inl ⟨1157, by decide⟩) kX12_findsPieces sX12_findsPieces (c_X12_findsPieces g I J (tq_N x) (tq_N y) w h (by omega) (by omega) k) rfl rfl (by decide +kernel) rfl (by decide) (Nat.le_of_ble_eq_true rfl) rfl ⟨Nat.zero_le _, Nat.zero_le _⟩ ?_
    refine EV_blk (own := 12) C rfl [(.iload_n 3, 0, 0, 0, 0), (.iconst 0, 0, 0, 0, (nI 0)), (.aload_n 0, 0, 0, 0, 0), (.getfield 152, 12, 15, 914, 0), (.iconst 1, 0, 0, 0, (nI 1)), (.isub, 0, 0, 0, 0)] (pc' := 26) (by decide +kernel) (lv' := [some (.ref 117), some (.int (nI (tq_N x))), some (.int (nI (tq_N y))), some (.int ly), some (.int q)]) (st' := [.int (((I_X12_findsPieces I (tq_N x) (tq_N y) w h) 117 15) - (nI 1)), .int (nI 0), .int ly]) (I' := (I_X12_findsPieces I (tq_N x) (tq_N y) w h)) (J' := J) rfl ?_
    refine EV_cS (own := 12) (idx := 62) (μ' := mX12_in) (av := [.int ly, .int (nI 0), .int (((I_X12_findsPieces I (tq_N x) (tq_N y) w h) 117 15) - (nI 1))]) (rest := []) C hR rfl (Or.inl ⟨896, by decide⟩) kX12_in sX12_in (c_X12_in g (I_X12_findsPieces I (tq_N x) (tq_N y) w h) J ly (nI 0) (((I_X12_findsPieces I (tq_N x) (tq_N y) w h) 117 15) - (nI 1)) ) (by decide +kernel) rfl (by decide) (Nat.le_of_ble_eq_true rfl) rfl ⟨Nat.zero_le _, Nat.zero_le _⟩ ?_
    refine EV_if_ne (off := 6) (tgt := 35) C (by decide +kernel) (by decide) (fun h2 => ?_) (fun h2 => ?_)
    · skip
      have hl := tr_lyx (m := 16) (tq_b10 h2) (tr_p16 k).1 (by decide)
      refine EV_blk (own := 12) C rfl [(.iload 4, 0, 0, 0, 0), (.iconst 0, 0, 0, 0, (nI 0)), (.iconst 3, 0, 0, 0, (nI 3))] (pc' := 39) (by decide +kernel) (lv' := [some (.ref 117), some (.int (nI (tq_N x))), some (.int (nI (tq_N y))), some (.int ly), some (.int q)]) (st' := [.int (nI 3), .int (nI 0), .int q]) (I' := (I_X12_findsPieces I (tq_N x) (tq_N y) w h)) (J' := J) rfl ?_
      refine EV_cS (own := 12) (idx := 62) (μ' := mX12_in) (av := [.int q, .int (nI 0), .int (nI 3)]) (rest := []) C hR rfl (Or.inl ⟨896, by decide⟩) kX12_in sX12_in (c_X12_in g (I_X12_findsPieces I (tq_N x) (tq_N y) w h) J q (nI 0) (nI 3) ) (by decide +kernel) rfl (by decide) (Nat.le_of_ble_eq_true rfl) rfl ⟨Nat.zero_le _, Nat.zero_le _⟩ ?_
      refine EV_if_eq (off := 17) (tgt := 59) C (by decide +kernel) (by decide) (fun h3 => ?_) (fun h3 => ?_)
      · skip
        refine EV_blk (own := 12) C rfl [(.bipush (-3), 0, 0, 0, (-3))] (pc' := 61) (by decide +kernel) (lv' := [some (.ref 117), some (.int (nI (tq_N x))), some (.int (nI (tq_N y))), some (.int ly), some (.int q)]) (st' := [.int (-3)]) (I' := (I_X12_findsPieces I (tq_N x) (tq_N y) w h)) (J' := J) rfl ?_
        exact EV_iret C hZ rfl (by decide +kernel) (Nat.le_refl _) (Nat.le_refl _) ⟨tq_some (by simp only [r_X12_piece, if_neg h1, if_neg h2, if_pos h3]), rfl, rfl, by simp only [I_X12_piece, if_neg h1, if_neg h2, if_pos h3], rfl⟩
      · skip
        refine EV_blk (own := 12) C rfl [(.aload_n 0, 0, 0, 0, 0), (.getfield 38, 12, 14, 913, 0), (.iload_n 3, 0, 0, 0, 0)] (pc' := 50) (by decide +kernel) (lv' := [some (.ref 117), some (.int (nI (tq_N x))), some (.int (nI (tq_N y))), some (.int ly), some (.int q)]) (st' := [.int ly, .ref 127]) (I' := (I_X12_findsPieces I (tq_N x) (tq_N y) w h)) (J' := J) rfl ?_
        refine EV_iald (j := (tq_N ly)) C (by decide +kernel) rfl (tq_NI hl.1) (by omega) ?_
        refine EV_blk (own := 12) C rfl [(.iload 4, 0, 0, 0, 0)] (pc' := 53) (by decide +kernel) (lv' := [some (.ref 117), some (.int (nI (tq_N x))), some (.int (nI (tq_N y))), some (.int ly), some (.int q)]) (st' := [.int q, .int ((I_X12_findsPieces I (tq_N x) (tq_N y) w h) 127 (tq_N ly))]) (I' := (I_X12_findsPieces I (tq_N x) (tq_N y) w h)) (J' := J) rfl ?_
        refine EV_cS (own := 12) (idx := 161) (μ' := mX12_ofPiece) (av := [.int ((I_X12_findsPieces I (tq_N x) (tq_N y) w h) 127 (tq_N ly)), .int q]) (rest := []) C hR rfl (Or.inl ⟨1170, by decide⟩) kX12_ofPiece sX12_ofPiece (c_X12_ofPiece g (I_X12_findsPieces I (tq_N x) (tq_N y) w h) J ((I_X12_findsPieces I (tq_N x) (tq_N y) w h) 127 (tq_N ly)) q ) (by decide +kernel) rfl (by decide) (Nat.le_of_ble_eq_true rfl) rfl ⟨Nat.zero_le _, Nat.zero_le _⟩ ?_
        refine EV_blk (own := 12) C rfl [(.goto 5, 0, 0, 0, 0)] (pc' := 61) (by decide +kernel) (lv' := [some (.ref 117), some (.int (nI (tq_N x))), some (.int (nI (tq_N y))), some (.int ly), some (.int q)]) (st' := [.int (r_X12_ofPiece ((I_X12_findsPieces I (tq_N x) (tq_N y) w h) 127 (tq_N ly)) q)]) (I' := (I_X12_findsPieces I (tq_N x) (tq_N y) w h)) (J' := J) rfl ?_
        exact EV_iret C hZ rfl (by decide +kernel) (Nat.le_refl _) (Nat.le_refl _) ⟨tq_some (by simp only [r_X12_piece, if_neg h1, if_neg h2, if_neg h3]), rfl, rfl, by simp only [I_X12_piece, if_neg h1, if_neg h2, if_neg h3], rfl⟩
    · skip
      refine EV_blk (own := 12) C rfl [(.bipush (-2), 0, 0, 0, (-2))] (pc' := 34) (by decide +kernel) (lv' := [some (.ref 117), some (.int (nI (tq_N x))), some (.int (nI (tq_N y))), some (.int ly), some (.int q)]) (st' := [.int (-2)]) (I' := (I_X12_findsPieces I (tq_N x) (tq_N y) w h)) (J' := J) rfl ?_
      exact EV_iret C hZ rfl (by decide +kernel) (Nat.le_refl _) (Nat.le_refl _) ⟨tq_some (by simp only [r_X12_piece, if_neg h1, if_pos h2]), rfl, rfl, by simp only [I_X12_piece, if_neg h1, if_pos h2], rfl⟩
  · skip
    refine EV_blk (own := 12) C rfl [(.bipush (-2), 0, 0, 0, (-2))] (pc' := 11) (by decide +kernel) (lv' := [some (.ref 117), some (.int x), some (.int y), some (.int ly), some (.int q)]) (st' := [.int (-2)]) (I' := I) (J' := J) rfl ?_
    exact EV_iret C hZ rfl (by decide +kernel) (Nat.le_refl _) (Nat.le_refl _) ⟨tq_some (by simp only [r_X12_piece, if_pos h1]), rfl, rfl, by simp only [I_X12_piece, if_pos h1], rfl⟩
theorem fr_X12_piece (I : tq_I) (x y ly q : Int32) (w h : Nat) {cz : Nat} (hc : cz ≠ 117 ∧ cz ≠ 124 ∧ cz ≠ 125 ∧ cz ≠ 126 ∧ cz ≠ 127) (jz : Nat) : I_X12_piece I x y ly q w h cz jz = I cz jz := by
  obtain ⟨hc0, hc1, hc2, hc3, hc4⟩ := hc
  simp only [I_X12_piece]
  (repeat' split) <;> simp (disch := first | assumption | (simp only [ne_eq] at *; simp [*])) [tq_u, tq_cp, hc0, hc1, hc2, hc3, hc4, fr_X12_touches, fr_ta1, fr_X12_touchesAll, fr_cps1, fr_X12_copies, fr_sav, fr_bg1, fr_bg2, fr_X12_begins, fr_ly1, fr_X12_lays, fr_bgn1, fr_X12_begin, fr_X12_setCorner, fr_fi1, fr_X12_fill, fr_fg1, fr_X12_forgets, fr_rc1, fr_rc2, fr_X12_reaches, fr_mfl1, fr_X12_flood, fr_mrg1, fr_X12_regions, fr_mra1, fr_X12_raise, fr_sp1, fr_X12_setPath, fr_sr1, fr_sr2, fr_X12_setRank, fr_X12_becomes, fr_X12_setTiles, fr_X12_setVariants, fr_X12_setSeed, fr_X12_setBorder, fr_X12_makesUp, fr_X12_finds, fr_X12_parts, fr_put, fr_mfy2, fr_X12_findsLayers, fr_mfp1, fr_mfp2, fr_X12_findsPieces, fr_X12_layers, fr_X12_layer, fr_X12_pieces]
def r_X12_painted (I : tq_I) (x y : Int32) (w h : Nat) : Int32 := (if (tq_b (tr_cell I x y)) = 0 then (-2) else (I 118 (343 + 10 * (10 * (tq_N y) + (tq_N x)))))
set_option maxRecDepth 20000 in
theorem c_X12_painted (g : tq_G) (I : tq_I) (J : Int64) (x y : Int32) (w h : Nat) (k : tr_bas I w h)  : CT g mX12_painted 2 0 0 [.ref 117, .int x, .int y] (tq_SC ++ tq_SR) tq_RR I J (tq_ret (tq_SC ++ tq_SR) tq_RR (some (.int (r_X12_painted I x y w h))) I J) := by
  refine CT.ret kX12_painted (Nat.le_of_ble_eq_true rfl) (fun x0 C hR hZ => ?_)
  refine EV_en (lv' := [some (.ref 117), some (.int x), some (.int y)]) 0 rfl ?_
  refine EV_blk (own := 12) C rfl [(.aload_n 0, 0, 0, 0, 0), (.iload_n 1, 0, 0, 0, 0), (.iload_n 2, 0, 0, 0, 0)] (pc' := 3) (by decide +kernel) (lv' := [some (.ref 117), some (.int x), some (.int y)]) (st' := [.int y, .int x, .ref 117]) (I' := I) (J' := J) rfl ?_
  refine EV_cV (own := 12) (idx := 66) (μ' := mX12_isCell) (b := 117) (cb := 12) (av := [.int x, .int y]) (rest := []) C hR rfl (Or.inl ⟨892, by decide⟩) kX12_isCell sX12_isCell (c_X12_isCell g I J x y ) rfl rfl (by decide +kernel) rfl (by decide) (Nat.le_of_ble_eq_true rfl) rfl ⟨Nat.zero_le _, Nat.zero_le _⟩ ?_
  refine EV_if_eq (off := 17) (tgt := 23) C (by decide +kernel) (by decide) (fun h1 => ?_) (fun h1 => ?_)
  · skip
    refine EV_blk (own := 12) C rfl [(.bipush (-2), 0, 0, 0, (-2))] (pc' := 25) (by decide +kernel) (lv' := [some (.ref 117), some (.int x), some (.int y)]) (st' := [.int (-2)]) (I' := I) (J' := J) rfl ?_
    exact EV_iret C hZ rfl (by decide +kernel) (Nat.le_refl _) (Nat.le_refl _) ⟨tq_some (by simp only [r_X12_painted, if_pos h1]), rfl, rfl, rfl, rfl⟩
  · skip
    have hc := tq_b10 h1
    have hxy := tr_cell.ix k.1 hc
    have hw10 := k.1.2.2.2.1
    have hh10 := k.1.2.2.2.2.2
    refine EV_lve (lv' := [some (.ref 117), some (.int (nI (tq_N x))), some (.int (nI (tq_N y)))]) (by rw [← tq_nIN hxy.1, ← tq_nIN hxy.2.1]) ?_
    refine EV_blk (own := 12) C rfl [(.aload_n 0, 0, 0, 0, 0), (.getfield 7, 12, 0, 899, 0), (.aload_n 0, 0, 0, 0, 0), (.iload_n 1, 0, 0, 0, 0), (.iload_n 2, 0, 0, 0, 0)] (pc' := 16) (by decide +kernel) (lv' := [some (.ref 117), some (.int (nI (tq_N x))), some (.int (nI (tq_N y)))]) (st' := [.int (nI (tq_N y)), .int (nI (tq_N x)), .ref 117, .ref 118]) (I' := I) (J' := J) rfl ?_
    refine EV_cV (own := 12) (idx := 164) (μ' := mX12_at) (b := 117) (cb := 12) (av := [.int (nI (tq_N x)), .int (nI (tq_N y))]) (rest := [.ref 118]) C hR rfl (Or.inl ⟨1177, by decide⟩) kX12_at sX12_at (c_X12_at g I J (tq_N x) (tq_N y) ) rfl rfl (by decide +kernel) rfl (by decide) (Nat.le_of_ble_eq_true rfl) rfl ⟨Nat.zero_le _, Nat.zero_le _⟩ ?_
    refine EV_iald (j := (343 + 10 * (10 * (tq_N y) + (tq_N x)))) C (by decide +kernel) rfl (nI_toInt (by omega)) (by omega) ?_
    refine EV_blk (own := 12) C rfl [(.goto 5, 0, 0, 0, 0)] (pc' := 25) (by decide +kernel) (lv' := [some (.ref 117), some (.int (nI (tq_N x))), some (.int (nI (tq_N y)))]) (st' := [.int (I 118 (343 + 10 * (10 * (tq_N y) + (tq_N x))))]) (I' := I) (J' := J) rfl ?_
    exact EV_iret C hZ rfl (by decide +kernel) (Nat.le_refl _) (Nat.le_refl _) ⟨tq_some (by simp only [r_X12_painted, if_neg h1]), rfl, rfl, rfl, rfl⟩
def f_mst1 (I : tq_I) (x y at_ p : Nat) (i : Nat) (a : Int32) : Option (Int32) := (if a = 0 then none else (if (I 118 ((at_ + 2) + i)) = (I 127 i) then (some (nI 1)) else (some (nI 0))))
set_option maxRecDepth 20000 in
theorem lp_mst1 {g : tq_G} {x0 : tq_X} (C : tq_C g mX12_isStaleAt x0) (hR : tq_ht x0 5 0 0) (I : tq_I) (J : Int64) (x y at_ p : Nat) (hat : at_ ≤ 1400) (hp : I 117 15 = nI p) (hp16 : p ≤ 16) : ∀ (n i : Nat) (a : Int32), i + n = p → EV g mX12_isStaleAt x0 0 0 101 [some (.ref 117), some (.int (nI x)), some (.int (nI y)), some (.int (nI at_)), some (.int (tq_wh (f_mst1 I x y at_ p) n i a)), none] [] (tq_SC ++ tq_SR) tq_RR I J → EV g mX12_isStaleAt x0 0 0 53 [some (.ref 117), some (.int (nI x)), some (.int (nI y)), some (.int (nI at_)), some (.int a), some (.int (nI i))] [] (tq_SC ++ tq_SR) tq_RR I J := by
  intro n
  induction n with
  | zero =>
    intro i a hi kk
    rw [show tq_wh _ 0 i a = a from rfl] at kk
    refine EV_blk (own := 12) C rfl [(.iload 5, 0, 0, 0, 0), (.aload_n 0, 0, 0, 0, 0), (.getfield 152, 12, 15, 914, 0)] (pc' := 59) (by decide +kernel) (lv' := [some (.ref 117), some (.int (nI x)), some (.int (nI y)), some (.int (nI at_)), some (.int a), some (.int (nI i))]) (st' := [.int (I 117 15), .int (nI i)]) (I' := I) (J' := J) rfl ?_
    refine EV_icmp_ge (off := 42) (tgt := 101) C (by decide +kernel) (by decide) (fun h1 => ?_) (fun h1 => ?_)
    · skip
      refine EV_fg (lv' := [some (.ref 117), some (.int (nI x)), some (.int (nI y)), some (.int (nI at_)), some (.int a), none]) ⟨rfl, rfl, rfl, rfl, rfl, trivial⟩ ?_
      exact kk
    · skip
      exact absurd (by rw [hp]; simp (disch := omega) only [Int32.le_iff_toInt_le, nI_toInt]; omega) h1
  | succ n ih =>
    intro i a hi kk
    refine EV_blk (own := 12) C rfl [(.iload 5, 0, 0, 0, 0), (.aload_n 0, 0, 0, 0, 0), (.getfield 152, 12, 15, 914, 0)] (pc' := 59) (by decide +kernel) (lv' := [some (.ref 117), some (.int (nI x)), some (.int (nI y)), some (.int (nI at_)), some (.int a), some (.int (nI i))]) (st' := [.int (I 117 15), .int (nI i)]) (I' := I) (J' := J) rfl ?_
    refine EV_icmp_ge (off := 42) (tgt := 101) C (by decide +kernel) (by decide) (fun h1 => ?_) (fun h1 => ?_)
    · skip
      exact absurd h1 (by rw [hp]; simp (disch := omega) only [Int32.le_iff_toInt_le, nI_toInt]; omega)
    · skip
      refine EV_blk (own := 12) C rfl [(.iload 4, 0, 0, 0, 0)] (pc' := 64) (by decide +kernel) (lv' := [some (.ref 117), some (.int (nI x)), some (.int (nI y)), some (.int (nI at_)), some (.int a), some (.int (nI i))]) (st' := [.int a]) (I' := I) (J' := J) rfl ?_
      refine EV_if_eq (off := 37) (tgt := 101) C (by decide +kernel) (by decide) (fun h2 => ?_) (fun h2 => ?_)
      · skip
        refine EV_fg (lv' := [some (.ref 117), some (.int (nI x)), some (.int (nI y)), some (.int (nI at_)), some (.int a), none]) ⟨rfl, rfl, rfl, rfl, rfl, trivial⟩ ?_
        rw [tq_wh_none (show (f_mst1 I x y at_ p) i a = none from by simp only [f_mst1, if_neg h1, if_pos h2])] at kk
        exact kk
      · skip
        refine EV_blk (own := 12) C rfl [(.aload_n 0, 0, 0, 0, 0), (.getfield 7, 12, 0, 899, 0), (.iload_n 3, 0, 0, 0, 0), (.iconst 2, 0, 0, 0, (nI 2)), (.iadd, 0, 0, 0, 0), (.iload 5, 0, 0, 0, 0), (.iadd, 0, 0, 0, 0)] (pc' := 77) (by decide +kernel) (lv' := [some (.ref 117), some (.int (nI x)), some (.int (nI y)), some (.int (nI at_)), some (.int a), some (.int (nI i))]) (st' := [.int (((nI at_) + (nI 2)) + (nI i)), .ref 118]) (I' := I) (J' := J) rfl ?_
        refine EV_iald (j := ((at_ + 2) + i)) C (by decide +kernel) rfl (tq_toI ((at_ + 2) + i) (by simp (disch := omega) only [nI_add, tq_mul, tq_rem_nI, tq_div_nI, tq_sub_nI]) (by omega)) (by omega) ?_
        refine EV_blk (own := 12) C rfl [(.aload_n 0, 0, 0, 0, 0), (.getfield 38, 12, 14, 913, 0), (.iload 5, 0, 0, 0, 0)] (pc' := 84) (by decide +kernel) (lv' := [some (.ref 117), some (.int (nI x)), some (.int (nI y)), some (.int (nI at_)), some (.int a), some (.int (nI i))]) (st' := [.int (nI i), .ref 127, .int (I 118 ((at_ + 2) + i))]) (I' := I) (J' := J) rfl ?_
        refine EV_iald (j := i) C (by decide +kernel) rfl (nI_toInt (by omega)) (by omega) ?_
        refine EV_icmp_ne (off := 7) (tgt := 92) C (by decide +kernel) (by decide) (fun h3 => ?_) (fun h3 => ?_)
        · skip
          refine EV_blk (own := 12) C rfl [(.iconst 0, 0, 0, 0, (nI 0)), (.istore 4, 0, 0, 0, 0), (.iinc 5 1, 0, 0, 0, (nI 1)), (.goto (-45), 0, 0, 0, 0)] (pc' := 53) (by decide +kernel) (lv' := [some (.ref 117), some (.int (nI x)), some (.int (nI y)), some (.int (nI at_)), some (.int (nI 0)), some (.int ((nI i) + (nI 1)))]) (st' := []) (I' := I) (J' := J) rfl ?_
          rw [show ((nI i) + (nI 1)) = (nI (i + 1)) from by simp (disch := omega) only [nI_add, tq_mul] <;> exact congrArg nI (by omega)]
          rw [tq_wh_some (show (f_mst1 I x y at_ p) i a = some (nI 0) from by simp only [f_mst1, if_neg h1, if_neg h2, if_neg h3])] at kk
          exact ih (i + 1) (nI 0) (by omega) kk
        · skip
          refine EV_blk (own := 12) C rfl [(.iconst 1, 0, 0, 0, (nI 1)), (.goto 4, 0, 0, 0, 0), (.istore 4, 0, 0, 0, 0), (.iinc 5 1, 0, 0, 0, (nI 1)), (.goto (-45), 0, 0, 0, 0)] (pc' := 53) (by decide +kernel) (lv' := [some (.ref 117), some (.int (nI x)), some (.int (nI y)), some (.int (nI at_)), some (.int (nI 1)), some (.int ((nI i) + (nI 1)))]) (st' := []) (I' := I) (J' := J) rfl ?_
          rw [show ((nI i) + (nI 1)) = (nI (i + 1)) from by simp (disch := omega) only [nI_add, tq_mul] <;> exact congrArg nI (by omega)]
          rw [tq_wh_some (show (f_mst1 I x y at_ p) i a = some (nI 1) from by simp only [f_mst1, if_neg h1, if_neg h2, if_pos h3])] at kk
          exact ih (i + 1) (nI 1) (by omega) kk
def r_X12_isStaleAt (I : tq_I) (x y : Nat) (w h : Nat) : Int32 := (if ((I_X12_findsPieces I x y w h) 118 (343 + 10 * (10 * y + x))) = ((I_X12_findsPieces I x y w h) 117 15) then (if ((I_X12_findsPieces I x y w h) 118 ((343 + 10 * (10 * y + x)) + 1)) = (r_X12_pathTileOf (I_X12_findsPieces I x y w h) (nI x) (nI y) w h) then (if (tq_wh (f_mst1 (I_X12_findsPieces I x y w h) x y (343 + 10 * (10 * y + x)) (tq_N ((I_X12_findsPieces I x y w h) 117 15))) (tq_N ((I_X12_findsPieces I x y w h) 117 15)) 0 (nI 1)) = 0 then (nI 1) else (nI 0)) else (if (tq_wh (f_mst1 (I_X12_findsPieces I x y w h) x y (343 + 10 * (10 * y + x)) (tq_N ((I_X12_findsPieces I x y w h) 117 15))) (tq_N ((I_X12_findsPieces I x y w h) 117 15)) 0 (nI 0)) = 0 then (nI 1) else (nI 0))) else (if (tq_wh (f_mst1 (I_X12_findsPieces I x y w h) x y (343 + 10 * (10 * y + x)) (tq_N ((I_X12_findsPieces I x y w h) 117 15))) (tq_N ((I_X12_findsPieces I x y w h) 117 15)) 0 (nI 0)) = 0 then (nI 1) else (nI 0)))
def I_X12_isStaleAt (I : tq_I) (x y : Nat) (w h : Nat) : tq_I := (if ((I_X12_findsPieces I x y w h) 118 (343 + 10 * (10 * y + x))) = ((I_X12_findsPieces I x y w h) 117 15) then (if ((I_X12_findsPieces I x y w h) 118 ((343 + 10 * (10 * y + x)) + 1)) = (r_X12_pathTileOf (I_X12_findsPieces I x y w h) (nI x) (nI y) w h) then (if (tq_wh (f_mst1 (I_X12_findsPieces I x y w h) x y (343 + 10 * (10 * y + x)) (tq_N ((I_X12_findsPieces I x y w h) 117 15))) (tq_N ((I_X12_findsPieces I x y w h) 117 15)) 0 (nI 1)) = 0 then (I_X12_findsPieces I x y w h) else (I_X12_findsPieces I x y w h)) else (if (tq_wh (f_mst1 (I_X12_findsPieces I x y w h) x y (343 + 10 * (10 * y + x)) (tq_N ((I_X12_findsPieces I x y w h) 117 15))) (tq_N ((I_X12_findsPieces I x y w h) 117 15)) 0 (nI 0)) = 0 then (I_X12_findsPieces I x y w h) else (I_X12_findsPieces I x y w h))) else (if (tq_wh (f_mst1 (I_X12_findsPieces I x y w h) x y (343 + 10 * (10 * y + x)) (tq_N ((I_X12_findsPieces I x y w h) 117 15))) (tq_N ((I_X12_findsPieces I x y w h) 117 15)) 0 (nI 0)) = 0 then (I_X12_findsPieces I x y w h) else (I_X12_findsPieces I x y w h)))
set_option maxRecDepth 20000 in
theorem c_X12_isStaleAt (g : tq_G) (I : tq_I) (J : Int64) (x y : Nat) (w h : Nat) (hx : x ≤ 9) (hy : y ≤ 9) (k : tr_bas I w h) : CT g mX12_isStaleAt 5 0 0 [.ref 117, .int (nI x), .int (nI y)] (tq_SC ++ tq_SR) tq_RR I J (tq_ret (tq_SC ++ tq_SR) tq_RR (some (.int (r_X12_isStaleAt I x y w h))) (I_X12_isStaleAt I x y w h) J) := by
  refine CT.ret kX12_isStaleAt (Nat.le_of_ble_eq_true rfl) (fun x0 C hR hZ => ?_)
  refine EV_en (lv' := [some (.ref 117), some (.int (nI x)), some (.int (nI y)), none, none, none]) 3 rfl ?_
  refine EV_blk (own := 12) C rfl [(.aload_n 0, 0, 0, 0, 0), (.iload_n 1, 0, 0, 0, 0), (.iload_n 2, 0, 0, 0, 0)] (pc' := 3) (by decide +kernel) (lv' := [some (.ref 117), some (.int (nI x)), some (.int (nI y)), none, none, none]) (st' := [.int (nI y), .int (nI x), .ref 117]) (I' := I) (J' := J) rfl ?_
  refine EV_cV (own := 12) (idx := 158) (μ' := mX12_findsPieces) (b := 117) (cb := 12) (av := [.int (nI x), .int (nI y)]) (rest := []) C hR rfl (Or.inl ⟨1157, by decide⟩) kX12_findsPieces sX12_findsPieces (c_X12_findsPieces g I J x y w h (by omega) (by omega) k) rfl rfl (by decide +kernel) rfl (by decide) (Nat.le_of_ble_eq_true rfl) rfl ⟨Nat.zero_le _, Nat.zero_le _⟩ ?_
  refine EV_blk (own := 12) C rfl [(.aload_n 0, 0, 0, 0, 0), (.iload_n 1, 0, 0, 0, 0), (.iload_n 2, 0, 0, 0, 0)] (pc' := 9) (by decide +kernel) (lv' := [some (.ref 117), some (.int (nI x)), some (.int (nI y)), none, none, none]) (st' := [.int (nI y), .int (nI x), .ref 117]) (I' := (I_X12_findsPieces I x y w h)) (J' := J) rfl ?_
  refine EV_cV (own := 12) (idx := 164) (μ' := mX12_at) (b := 117) (cb := 12) (av := [.int (nI x), .int (nI y)]) (rest := []) C hR rfl (Or.inl ⟨1177, by decide⟩) kX12_at sX12_at (c_X12_at g (I_X12_findsPieces I x y w h) J x y ) rfl rfl (by decide +kernel) rfl (by decide) (Nat.le_of_ble_eq_true rfl) rfl ⟨Nat.zero_le _, Nat.zero_le _⟩ ?_
  refine EV_blk (own := 12) C rfl [(.istore_n 3, 0, 0, 0, 0), (.aload_n 0, 0, 0, 0, 0), (.getfield 7, 12, 0, 899, 0), (.iload_n 3, 0, 0, 0, 0)] (pc' := 18) (by decide +kernel) (lv' := [some (.ref 117), some (.int (nI x)), some (.int (nI y)), some (.int (nI (343 + 10 * (10 * y + x)))), none, none]) (st' := [.int (nI (343 + 10 * (10 * y + x))), .ref 118]) (I' := (I_X12_findsPieces I x y w h)) (J' := J) rfl ?_
  refine EV_iald (j := (343 + 10 * (10 * y + x))) C (by decide +kernel) rfl (nI_toInt (by omega)) (by omega) ?_
  refine EV_blk (own := 12) C rfl [(.aload_n 0, 0, 0, 0, 0), (.getfield 152, 12, 15, 914, 0)] (pc' := 23) (by decide +kernel) (lv' := [some (.ref 117), some (.int (nI x)), some (.int (nI y)), some (.int (nI (343 + 10 * (10 * y + x)))), none, none]) (st' := [.int ((I_X12_findsPieces I x y w h) 117 15), .int ((I_X12_findsPieces I x y w h) 118 (343 + 10 * (10 * y + x)))]) (I' := (I_X12_findsPieces I x y w h)) (J' := J) rfl ?_
  refine EV_icmp_ne (off := 24) (tgt := 47) C (by decide +kernel) (by decide) (fun h1 => ?_) (fun h1 => ?_)
  · skip
    refine EV_blk (own := 12) C rfl [(.iconst 0, 0, 0, 0, (nI 0)), (.istore 4, 0, 0, 0, 0), (.iconst 0, 0, 0, 0, (nI 0)), (.istore 5, 0, 0, 0, 0)] (pc' := 53) (by decide +kernel) (lv' := [some (.ref 117), some (.int (nI x)), some (.int (nI y)), some (.int (nI (343 + 10 * (10 * y + x)))), some (.int (nI 0)), some (.int (nI 0))]) (st' := []) (I' := (I_X12_findsPieces I x y w h)) (J' := J) rfl ?_
    refine lp_mst1 C hR (I_X12_findsPieces I x y w h) J x y (343 + 10 * (10 * y + x)) (tq_N ((I_X12_findsPieces I x y w h) 117 15)) (by omega) (tq_nIN (tr_p16 k).1.1) (tr_p16 k).2 (tq_N ((I_X12_findsPieces I x y w h) 117 15)) 0 (nI 0) (by omega) ?_
    refine EV_blk (own := 12) C rfl [(.iload 4, 0, 0, 0, 0)] (pc' := 103) (by decide +kernel) (lv' := [some (.ref 117), some (.int (nI x)), some (.int (nI y)), some (.int (nI (343 + 10 * (10 * y + x)))), some (.int (tq_wh (f_mst1 (I_X12_findsPieces I x y w h) x y (343 + 10 * (10 * y + x)) (tq_N ((I_X12_findsPieces I x y w h) 117 15))) (tq_N ((I_X12_findsPieces I x y w h) 117 15)) 0 (nI 0))), none]) (st' := [.int (tq_wh (f_mst1 (I_X12_findsPieces I x y w h) x y (343 + 10 * (10 * y + x)) (tq_N ((I_X12_findsPieces I x y w h) 117 15))) (tq_N ((I_X12_findsPieces I x y w h) 117 15)) 0 (nI 0))]) (I' := (I_X12_findsPieces I x y w h)) (J' := J) rfl ?_
    refine EV_if_ne (off := 7) (tgt := 110) C (by decide +kernel) (by decide) (fun h2 => ?_) (fun h2 => ?_)
    · skip
      refine EV_blk (own := 12) C rfl [(.iconst 0, 0, 0, 0, (nI 0))] (pc' := 111) (by decide +kernel) (lv' := [some (.ref 117), some (.int (nI x)), some (.int (nI y)), some (.int (nI (343 + 10 * (10 * y + x)))), some (.int (tq_wh (f_mst1 (I_X12_findsPieces I x y w h) x y (343 + 10 * (10 * y + x)) (tq_N ((I_X12_findsPieces I x y w h) 117 15))) (tq_N ((I_X12_findsPieces I x y w h) 117 15)) 0 (nI 0))), none]) (st' := [.int (nI 0)]) (I' := (I_X12_findsPieces I x y w h)) (J' := J) rfl ?_
      exact EV_zret C hZ rfl (by decide) (by decide +kernel) (Nat.le_refl _) (Nat.le_refl _) ⟨tq_some (by simp only [r_X12_isStaleAt, if_neg h1, if_neg h2]), rfl, rfl, by simp only [I_X12_isStaleAt, if_neg h1, if_neg h2], rfl⟩
    · skip
      refine EV_blk (own := 12) C rfl [(.iconst 1, 0, 0, 0, (nI 1)), (.goto 4, 0, 0, 0, 0)] (pc' := 111) (by decide +kernel) (lv' := [some (.ref 117), some (.int (nI x)), some (.int (nI y)), some (.int (nI (343 + 10 * (10 * y + x)))), some (.int (tq_wh (f_mst1 (I_X12_findsPieces I x y w h) x y (343 + 10 * (10 * y + x)) (tq_N ((I_X12_findsPieces I x y w h) 117 15))) (tq_N ((I_X12_findsPieces I x y w h) 117 15)) 0 (nI 0))), none]) (st' := [.int (nI 1)]) (I' := (I_X12_findsPieces I x y w h)) (J' := J) rfl ?_
      exact EV_zret C hZ rfl (by decide) (by decide +kernel) (Nat.le_refl _) (Nat.le_refl _) ⟨tq_some (by simp only [r_X12_isStaleAt, if_neg h1, if_pos h2]), rfl, rfl, by simp only [I_X12_isStaleAt, if_neg h1, if_pos h2], rfl⟩
  · skip
    refine EV_blk (own := 12) C rfl [(.aload_n 0, 0, 0, 0, 0), (.getfield 7, 12, 0, 899, 0), (.iload_n 3, 0, 0, 0, 0), (.iconst 1, 0, 0, 0, (nI 1)), (.iadd, 0, 0, 0, 0)] (pc' := 33) (by decide +kernel) (lv' := [some (.ref 117), some (.int (nI x)), some (.int (nI y)), some (.int (nI (343 + 10 * (10 * y + x)))), none, none]) (st' := [.int ((nI (343 + 10 * (10 * y + x))) + (nI 1)), .ref 118]) (I' := (I_X12_findsPieces I x y w h)) (J' := J) rfl ?_
    refine EV_iald (j := ((343 + 10 * (10 * y + x)) + 1)) C (by decide +kernel) rfl (tq_toI ((343 + 10 * (10 * y + x)) + 1) (by simp (disch := omega) only [nI_add, tq_mul, tq_rem_nI, tq_div_nI, tq_sub_nI]) (by omega)) (by omega) ?_
    refine EV_blk (own := 12) C rfl [(.aload_n 0, 0, 0, 0, 0), (.iload_n 1, 0, 0, 0, 0), (.iload_n 2, 0, 0, 0, 0)] (pc' := 37) (by decide +kernel) (lv' := [some (.ref 117), some (.int (nI x)), some (.int (nI y)), some (.int (nI (343 + 10 * (10 * y + x)))), none, none]) (st' := [.int (nI y), .int (nI x), .ref 117, .int ((I_X12_findsPieces I x y w h) 118 ((343 + 10 * (10 * y + x)) + 1))]) (I' := (I_X12_findsPieces I x y w h)) (J' := J) rfl ?_
    refine EV_cV (own := 12) (idx := 119) (μ' := mX12_pathTileOf) (b := 117) (cb := 12) (av := [.int (nI x), .int (nI y)]) (rest := [.int ((I_X12_findsPieces I x y w h) 118 ((343 + 10 * (10 * y + x)) + 1))]) C hR rfl (Or.inl ⟨1077, by decide⟩) kX12_pathTileOf sX12_pathTileOf (c_X12_pathTileOf g (I_X12_findsPieces I x y w h) J (nI x) (nI y) w h (k.fr (fr_X12_findsPieces _ _ _ _ _ (by decide))).1) rfl rfl (by decide +kernel) rfl (by decide) (Nat.le_of_ble_eq_true rfl) rfl ⟨Nat.zero_le _, Nat.zero_le _⟩ ?_
    refine EV_icmp_ne (off := 7) (tgt := 47) C (by decide +kernel) (by decide) (fun h3 => ?_) (fun h3 => ?_)
    · skip
      refine EV_blk (own := 12) C rfl [(.iconst 0, 0, 0, 0, (nI 0)), (.istore 4, 0, 0, 0, 0), (.iconst 0, 0, 0, 0, (nI 0)), (.istore 5, 0, 0, 0, 0)] (pc' := 53) (by decide +kernel) (lv' := [some (.ref 117), some (.int (nI x)), some (.int (nI y)), some (.int (nI (343 + 10 * (10 * y + x)))), some (.int (nI 0)), some (.int (nI 0))]) (st' := []) (I' := (I_X12_findsPieces I x y w h)) (J' := J) rfl ?_
      refine lp_mst1 C hR (I_X12_findsPieces I x y w h) J x y (343 + 10 * (10 * y + x)) (tq_N ((I_X12_findsPieces I x y w h) 117 15)) (by omega) (tq_nIN (tr_p16 k).1.1) (tr_p16 k).2 (tq_N ((I_X12_findsPieces I x y w h) 117 15)) 0 (nI 0) (by omega) ?_
      refine EV_blk (own := 12) C rfl [(.iload 4, 0, 0, 0, 0)] (pc' := 103) (by decide +kernel) (lv' := [some (.ref 117), some (.int (nI x)), some (.int (nI y)), some (.int (nI (343 + 10 * (10 * y + x)))), some (.int (tq_wh (f_mst1 (I_X12_findsPieces I x y w h) x y (343 + 10 * (10 * y + x)) (tq_N ((I_X12_findsPieces I x y w h) 117 15))) (tq_N ((I_X12_findsPieces I x y w h) 117 15)) 0 (nI 0))), none]) (st' := [.int (tq_wh (f_mst1 (I_X12_findsPieces I x y w h) x y (343 + 10 * (10 * y + x)) (tq_N ((I_X12_findsPieces I x y w h) 117 15))) (tq_N ((I_X12_findsPieces I x y w h) 117 15)) 0 (nI 0))]) (I' := (I_X12_findsPieces I x y w h)) (J' := J) rfl ?_
      refine EV_if_ne (off := 7) (tgt := 110) C (by decide +kernel) (by decide) (fun h4 => ?_) (fun h4 => ?_)
      · skip
        refine EV_blk (own := 12) C rfl [(.iconst 0, 0, 0, 0, (nI 0))] (pc' := 111) (by decide +kernel) (lv' := [some (.ref 117), some (.int (nI x)), some (.int (nI y)), some (.int (nI (343 + 10 * (10 * y + x)))), some (.int (tq_wh (f_mst1 (I_X12_findsPieces I x y w h) x y (343 + 10 * (10 * y + x)) (tq_N ((I_X12_findsPieces I x y w h) 117 15))) (tq_N ((I_X12_findsPieces I x y w h) 117 15)) 0 (nI 0))), none]) (st' := [.int (nI 0)]) (I' := (I_X12_findsPieces I x y w h)) (J' := J) rfl ?_
        exact EV_zret C hZ rfl (by decide) (by decide +kernel) (Nat.le_refl _) (Nat.le_refl _) ⟨tq_some (by simp only [r_X12_isStaleAt, if_pos h1, if_neg h3, if_neg h4]), rfl, rfl, by simp only [I_X12_isStaleAt, if_pos h1, if_neg h3, if_neg h4], rfl⟩
      · skip
        refine EV_blk (own := 12) C rfl [(.iconst 1, 0, 0, 0, (nI 1)), (.goto 4, 0, 0, 0, 0)] (pc' := 111) (by decide +kernel) (lv' := [some (.ref 117), some (.int (nI x)), some (.int (nI y)), some (.int (nI (343 + 10 * (10 * y + x)))), some (.int (tq_wh (f_mst1 (I_X12_findsPieces I x y w h) x y (343 + 10 * (10 * y + x)) (tq_N ((I_X12_findsPieces I x y w h) 117 15))) (tq_N ((I_X12_findsPieces I x y w h) 117 15)) 0 (nI 0))), none]) (st' := [.int (nI 1)]) (I' := (I_X12_findsPieces I x y w h)) (J' := J) rfl ?_
        exact EV_zret C hZ rfl (by decide) (by decide +kernel) (Nat.le_refl _) (Nat.le_refl _) ⟨tq_some (by simp only [r_X12_isStaleAt, if_pos h1, if_neg h3, if_pos h4]), rfl, rfl, by simp only [I_X12_isStaleAt, if_pos h1, if_neg h3, if_pos h4], rfl⟩
    · skip
      refine EV_blk (own := 12) C rfl [(.iconst 1, 0, 0, 0, (nI 1)), (.goto 4, 0, 0, 0, 0), (.istore 4, 0, 0, 0, 0), (.iconst 0, 0, 0, 0, (nI 0)), (.istore 5, 0, 0, 0, 0)] (pc' := 53) (by decide +kernel) (lv' := [some (.ref 117), some (.int (nI x)), some (.int (nI y)), some (.int (nI (343 + 10 * (10 * y + x)))), some (.int (nI 1)), some (.int (nI 0))]) (st' := []) (I' := (I_X12_findsPieces I x y w h)) (J' := J) rfl ?_
      refine lp_mst1 C hR (I_X12_findsPieces I x y w h) J x y (343 + 10 * (10 * y + x)) (tq_N ((I_X12_findsPieces I x y w h) 117 15)) (by omega) (tq_nIN (tr_p16 k).1.1) (tr_p16 k).2 (tq_N ((I_X12_findsPieces I x y w h) 117 15)) 0 (nI 1) (by omega) ?_
      refine EV_blk (own := 12) C rfl [(.iload 4, 0, 0, 0, 0)] (pc' := 103) (by decide +kernel) (lv' := [some (.ref 117), some (.int (nI x)), some (.int (nI y)), some (.int (nI (343 + 10 * (10 * y + x)))), some (.int (tq_wh (f_mst1 (I_X12_findsPieces I x y w h) x y (343 + 10 * (10 * y + x)) (tq_N ((I_X12_findsPieces I x y w h) 117 15))) (tq_N ((I_X12_findsPieces I x y w h) 117 15)) 0 (nI 1))), none]) (st' := [.int (tq_wh (f_mst1 (I_X12_findsPieces I x y w h) x y (343 + 10 * (10 * y + x)) (tq_N ((I_X12_findsPieces I x y w h) 117 15))) (tq_N ((I_X12_findsPieces I x y w h) 117 15)) 0 (nI 1))]) (I' := (I_X12_findsPieces I x y w h)) (J' := J) rfl ?_
      refine EV_if_ne (off := 7) (tgt := 110) C (by decide +kernel) (by decide) (fun h5 => ?_) (fun h5 => ?_)
      · skip
        refine EV_blk (own := 12) C rfl [(.iconst 0, 0, 0, 0, (nI 0))] (pc' := 111) (by decide +kernel) (lv' := [some (.ref 117), some (.int (nI x)), some (.int (nI y)), some (.int (nI (343 + 10 * (10 * y + x)))), some (.int (tq_wh (f_mst1 (I_X12_findsPieces I x y w h) x y (343 + 10 * (10 * y + x)) (tq_N ((I_X12_findsPieces I x y w h) 117 15))) (tq_N ((I_X12_findsPieces I x y w h) 117 15)) 0 (nI 1))), none]) (st' := [.int (nI 0)]) (I' := (I_X12_findsPieces I x y w h)) (J' := J) rfl ?_
        exact EV_zret C hZ rfl (by decide) (by decide +kernel) (Nat.le_refl _) (Nat.le_refl _) ⟨tq_some (by simp only [r_X12_isStaleAt, if_pos h1, if_pos h3, if_neg h5]), rfl, rfl, by simp only [I_X12_isStaleAt, if_pos h1, if_pos h3, if_neg h5], rfl⟩
      · skip
        refine EV_blk (own := 12) C rfl [(.iconst 1, 0, 0, 0, (nI 1)), (.goto 4, 0, 0, 0, 0)] (pc' := 111) (by decide +kernel) (lv' := [some (.ref 117), some (.int (nI x)), some (.int (nI y)), some (.int (nI (343 + 10 * (10 * y + x)))), some (.int (tq_wh (f_mst1 (I_X12_findsPieces I x y w h) x y (343 + 10 * (10 * y + x)) (tq_N ((I_X12_findsPieces I x y w h) 117 15))) (tq_N ((I_X12_findsPieces I x y w h) 117 15)) 0 (nI 1))), none]) (st' := [.int (nI 1)]) (I' := (I_X12_findsPieces I x y w h)) (J' := J) rfl ?_
        exact EV_zret C hZ rfl (by decide) (by decide +kernel) (Nat.le_refl _) (Nat.le_refl _) ⟨tq_some (by simp only [r_X12_isStaleAt, if_pos h1, if_pos h3, if_pos h5]), rfl, rfl, by simp only [I_X12_isStaleAt, if_pos h1, if_pos h3, if_pos h5], rfl⟩
theorem fr_X12_isStaleAt (I : tq_I) (x y : Nat) (w h : Nat) {cz : Nat} (hc : cz ≠ 117 ∧ cz ≠ 124 ∧ cz ≠ 125 ∧ cz ≠ 126 ∧ cz ≠ 127) (jz : Nat) : I_X12_isStaleAt I x y w h cz jz = I cz jz := by
  obtain ⟨hc0, hc1, hc2, hc3, hc4⟩ := hc
  simp only [I_X12_isStaleAt]
  (repeat' split) <;> simp (disch := first | assumption | (simp only [ne_eq] at *; simp [*])) [tq_u, tq_cp, hc0, hc1, hc2, hc3, hc4, fr_X12_touches, fr_ta1, fr_X12_touchesAll, fr_cps1, fr_X12_copies, fr_sav, fr_bg1, fr_bg2, fr_X12_begins, fr_ly1, fr_X12_lays, fr_bgn1, fr_X12_begin, fr_X12_setCorner, fr_fi1, fr_X12_fill, fr_fg1, fr_X12_forgets, fr_rc1, fr_rc2, fr_X12_reaches, fr_mfl1, fr_X12_flood, fr_mrg1, fr_X12_regions, fr_mra1, fr_X12_raise, fr_sp1, fr_X12_setPath, fr_sr1, fr_sr2, fr_X12_setRank, fr_X12_becomes, fr_X12_setTiles, fr_X12_setVariants, fr_X12_setSeed, fr_X12_setBorder, fr_X12_makesUp, fr_X12_finds, fr_X12_parts, fr_put, fr_mfy2, fr_X12_findsLayers, fr_mfp1, fr_mfp2, fr_X12_findsPieces, fr_X12_layers, fr_X12_layer, fr_X12_pieces, fr_X12_piece]
