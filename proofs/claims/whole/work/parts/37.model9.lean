/-! the reference's text -/
def tr_tx (I : tq_I) (L : Nat) : Prop := I 117 3 = nI L ∧ L ≤ 150 ∧ 0 ≤ (I 117 19).toInt ∧ (I 117 19).toInt ≤ (L : Int)
theorem tr_tx.p {I : tq_I} {L : Nat} (k : tr_tx I L) : I 117 19 = nI (tq_N (I 117 19)) ∧ tq_N (I 117 19) ≤ L := by
  have h := k.2.2
  refine ⟨tq_nIN h.1, ?_⟩
  unfold tq_N
  omega
theorem tr_tx.set {I : tq_I} {L p : Nat} (k : tr_tx I L) (hp : p ≤ L) : tr_tx (tq_u I 117 19 (nI p)) L := by
  have h := k.2.1
  refine ⟨by rw [tq_u_slot (by decide)]; exact k.1, h, ?_⟩
  rw [tq_u_same, nI_toInt (by omega)]
  omega
/-- blanks passed over -/
def tr_sk (T : Nat → Int32) : Nat → Nat → Nat
  | 0, p => p
  | n + 1, p => if T p = nI 32 then tr_sk T n (p + 1) else p
theorem tr_sk_le (T : Nat → Int32) : ∀ (n p : Nat), p ≤ tr_sk T n p ∧ tr_sk T n p ≤ p + n
  | 0, p => ⟨Nat.le_refl _, Nat.le_refl _⟩
  | n + 1, p => by
    unfold tr_sk
    split
    · have := tr_sk_le T n (p + 1)
      omega
    · omega
def tr_skI (I : tq_I) (L : Nat) : Nat := tr_sk (I 119) (L - tq_N (I 117 19)) (tq_N (I 117 19))
theorem tr_skI_le {I : tq_I} {L : Nat} (k : tr_tx I L) : tq_N (I 117 19) ≤ tr_skI I L ∧ tr_skI I L ≤ L := by
  have h := k.p.2
  have := tr_sk_le (I 119) (L - tq_N (I 117 19)) (tq_N (I 117 19))
  unfold tr_skI
  omega
theorem tr_txi {a : tq_I} {L : Nat} (k : tr_tx a L) (h : (a 117 19).toInt < (L : Int)) : tr_tx (tq_u a 117 19 (a 117 19 + nI 1)) L := by
  have e := k.p
  have h1 := k.2.2.1
  have h2 := tq_NI h1
  have h3 : a 117 19 + nI 1 = nI (tq_N (a 117 19) + 1) := by
    conv => lhs; rw [e.1]
    rw [nI_add]
  rw [h3]
  exact k.set (by omega)
def f_mhr1 (L : Nat) (i : Nat) (a : tq_I) : Option (tq_I) := (if (a 119 (tq_N (a 117 19))) = (nI 32) then (some (tq_u a 117 19 ((a 117 19) + (nI 1)))) else none)
set_option maxRecDepth 20000 in
theorem lp_mhr1 {g : tq_G} {x0 : tq_X} (C : tq_C g mX12_here x0) (hR : tq_ht x0 0 0 0) (J : Int64) (L : Nat)  : ∀ (n i : Nat) (a : tq_I), ((a 117 19).toInt + (n : Int) = (L : Int)) → tr_tx a L → EV g mX12_here x0 0 0 38 [some (.ref 117)] [] (tq_SC ++ tq_SR) tq_RR (tq_wh (f_mhr1 L) n i a) J → EV g mX12_here x0 0 0 0 [some (.ref 117)] [] (tq_SC ++ tq_SR) tq_RR a J := by
  intro n
  induction n with
  | zero =>
    intro i a hi hI kk
    rw [show tq_wh _ 0 i a = a from rfl] at kk
    refine EV_blk (own := 12) C rfl [(.aload_n 0, 0, 0, 0, 0), (.getfield 182, 12, 19, 918, 0), (.aload_n 0, 0, 0, 0, 0), (.getfield 179, 12, 3, 902, 0)] (pc' := 8) (by decide +kernel) (lv' := [some (.ref 117)]) (st' := [.int (a 117 3), .int (a 117 19)]) (I' := a) (J' := J) rfl ?_
    refine EV_icmp_ge (off := 30) (tgt := 38) C (by decide +kernel) (by decide) (fun h1 => ?_) (fun h1 => ?_)
    · skip
      exact kk
    · skip
      exact absurd (by rw [hI.1]; have := hI.2.1; simp (disch := omega) only [Int32.le_iff_toInt_le, nI_toInt]; omega) h1
  | succ n ih =>
    intro i a hi hI kk
    refine EV_blk (own := 12) C rfl [(.aload_n 0, 0, 0, 0, 0), (.getfield 182, 12, 19, 918, 0), (.aload_n 0, 0, 0, 0, 0), (.getfield 179, 12, 3, 902, 0)] (pc' := 8) (by decide +kernel) (lv' := [some (.ref 117)]) (st' := [.int (a 117 3), .int (a 117 19)]) (I' := a) (J' := J) rfl ?_
    refine EV_icmp_ge (off := 30) (tgt := 38) C (by decide +kernel) (by decide) (fun h1 => ?_) (fun h1 => ?_)
    · skip
      exact absurd h1 (by rw [hI.1]; have := hI.2.1; simp (disch := omega) only [Int32.le_iff_toInt_le, nI_toInt]; omega)
    · skip
      refine EV_blk (own := 12) C rfl [(.aload_n 0, 0, 0, 0, 0), (.getfield 13, 12, 2, 901, 0), (.aload_n 0, 0, 0, 0, 0), (.getfield 182, 12, 19, 918, 0)] (pc' := 19) (by decide +kernel) (lv' := [some (.ref 117)]) (st' := [.int (a 117 19), .ref 119]) (I' := a) (J' := J) rfl ?_
      refine EV_iald (j := (tq_N (a 117 19))) C (by decide +kernel) rfl (tq_NI hI.2.2.1) (tq_Nlt hI.2.2.1 (by have := hI.2.1; omega)) ?_
      refine EV_blk (own := 12) C rfl [(.bipush 32, 0, 0, 0, (nI 32))] (pc' := 22) (by decide +kernel) (lv' := [some (.ref 117)]) (st' := [.int (nI 32), .int (a 119 (tq_N (a 117 19)))]) (I' := a) (J' := J) rfl ?_
      refine EV_icmp_ne (off := 16) (tgt := 38) C (by decide +kernel) (by decide) (fun h2 => ?_) (fun h2 => ?_)
      · skip
        rw [tq_wh_none (show (f_mhr1 L) i a = none from by simp only [f_mhr1, if_neg h1, if_neg h2])] at kk
        exact kk
      · skip
        refine EV_blk (own := 12) C rfl [(.aload_n 0, 0, 0, 0, 0), (.dup, 0, 0, 0, 0), (.getfield 182, 12, 19, 918, 0), (.iconst 1, 0, 0, 0, (nI 1)), (.iadd, 0, 0, 0, 0), (.putfield 182, 12, 19, 918, 0), (.goto (-35), 0, 0, 0, 0)] (pc' := 0) (by decide +kernel) (lv' := [some (.ref 117)]) (st' := []) (I' := (tq_u a 117 19 ((a 117 19) + (nI 1)))) (J' := J) rfl ?_
        rw [tq_wh_some (show (f_mhr1 L) i a = some (tq_u a 117 19 ((a 117 19) + (nI 1))) from by simp only [f_mhr1, if_neg h1, if_pos h2])] at kk
        exact ih (i + 1) (tq_u a 117 19 ((a 117 19) + (nI 1))) (by rw [tq_u_same]; have := tr_ainc (n := 150) hI.2.2.1 (by have := hI.2.1; omega) (by decide); omega) (tr_txi hI (by omega)) kk
theorem tr_hr1 {L : Nat} : ∀ (n i : Nat) (a : tq_I), tr_tx a L → tq_N (a 117 19) + n = L → tq_wh (f_mhr1 L) n i a = tq_u a 117 19 (nI (tr_sk (a 119) n (tq_N (a 117 19))))
  | 0, i, a, k, h => by
    show a = tq_u a 117 19 (nI (tq_N (a 117 19)))
    rw [← k.p.1]
    funext c j
    simp only [tq_u]
    split
    · rename_i e; rw [e.1, e.2]
    · rfl
  | n + 1, i, a, k, h => by
    have e := k.p
    have h1 := k.2.1
    by_cases c : a 119 (tq_N (a 117 19)) = nI 32
    · have hf : f_mhr1 L i a = some (tq_u a 117 19 (a 117 19 + nI 1)) := by
        unfold f_mhr1
        rw [if_pos c]
      have h3 : a 117 19 + nI 1 = nI (tq_N (a 117 19) + 1) := by
        conv => lhs; rw [e.1]
        rw [nI_add]
      rw [tq_wh_some hf, h3]
      have k2 := k.set (p := tq_N (a 117 19) + 1) (by omega)
      have e2 : tq_N (tq_u a 117 19 (nI (tq_N (a 117 19) + 1)) 117 19) = tq_N (a 117 19) + 1 := by rw [tq_u_same, tq_N_nI (by omega)]
      rw [tr_hr1 n (i + 1) _ k2 (by rw [e2]; omega), tq_uu, e2]
      have e3 : tq_u a 117 19 (nI (tq_N (a 117 19) + 1)) 119 = a 119 := funext fun j => tq_u_cell (by decide)
      rw [e3]
      simp only [tr_sk]
      rw [if_pos c]
    · have hf : f_mhr1 L i a = none := by
        unfold f_mhr1
        rw [if_neg c]
      rw [tq_wh_none hf]
      simp only [tr_sk]
      rw [if_neg c, ← e.1]
      funext c j
      simp only [tq_u]
      split
      · rename_i e; rw [e.1, e.2]
      · rfl
def r_X12_here (I : tq_I) (L : Nat) : Int32 := (if ((tq_u I 117 19 (nI (tr_skI I L))) 117 3) ≤ ((tq_u I 117 19 (nI (tr_skI I L))) 117 19) then (-1) else ((tq_u I 117 19 (nI (tr_skI I L))) 119 (tr_skI I L)))
def I_X12_here (I : tq_I) (L : Nat) : tq_I := tq_u I 117 19 (nI (tr_skI I L))
set_option maxRecDepth 20000 in
theorem c_X12_here (g : tq_G) (I : tq_I) (J : Int64) (L : Nat) (k : tr_tx I L) : CT g mX12_here 0 0 0 [.ref 117] (tq_SC ++ tq_SR) tq_RR I J (tq_ret (tq_SC ++ tq_SR) tq_RR (some (.int (r_X12_here I L))) (I_X12_here I L) J) := by
  refine CT.ret kX12_here (Nat.le_of_ble_eq_true rfl) (fun x0 C hR hZ => ?_)
  refine EV_en (lv' := [some (.ref 117)]) 0 rfl ?_
  have hp := k.p
  have hsl := tr_skI_le k
  have hlp := lp_mhr1 (g := g) C hR J L (L - tq_N (I 117 19)) 0 I (by have := tq_NI k.2.2.1; omega) k
  rw [tr_hr1 _ _ _ k (by omega)] at hlp
  refine hlp ?_
  clear hlp
  change EV _ _ _ _ _ _ _ _ _ _ (tq_u I 117 19 (nI (tr_skI I L))) _
  refine EV_blk (own := 12) C rfl [(.aload_n 0, 0, 0, 0, 0), (.getfield 182, 12, 19, 918, 0), (.aload_n 0, 0, 0, 0, 0), (.getfield 179, 12, 3, 902, 0)] (pc' := 46) (by decide +kernel) (lv' := [some (.ref 117)]) (st' := [.int ((tq_u I 117 19 (nI (tr_skI I L))) 117 3), .int ((tq_u I 117 19 (nI (tr_skI I L))) 117 19)]) (I' := (tq_u I 117 19 (nI (tr_skI I L)))) (J' := J) rfl ?_
  refine EV_icmp_ge (off := 15) (tgt := 61) C (by decide +kernel) (by decide) (fun h1 => ?_) (fun h1 => ?_)
  · skip
    refine EV_blk (own := 12) C rfl [(.iconst (-1), 0, 0, 0, (-1))] (pc' := 62) (by decide +kernel) (lv' := [some (.ref 117)]) (st' := [.int (-1)]) (I' := (tq_u I 117 19 (nI (tr_skI I L)))) (J' := J) rfl ?_
    exact EV_iret C hZ rfl (by decide +kernel) (Nat.le_refl _) (Nat.le_refl _) ⟨tq_some (by simp only [r_X12_here, if_pos h1]), rfl, rfl, by simp only [I_X12_here], rfl⟩
  · skip
    have hlt : tr_skI I L < L := by rw [tq_u_same, tq_u_slot (by decide), k.1, nI_leI (by have := k.2.1; omega) (by have := k.2.1; omega)] at h1; omega
    refine EV_blk (own := 12) C rfl [(.aload_n 0, 0, 0, 0, 0), (.getfield 13, 12, 2, 901, 0), (.aload_n 0, 0, 0, 0, 0), (.getfield 182, 12, 19, 918, 0)] (pc' := 57) (by decide +kernel) (lv' := [some (.ref 117)]) (st' := [.int ((tq_u I 117 19 (nI (tr_skI I L))) 117 19), .ref 119]) (I' := (tq_u I 117 19 (nI (tr_skI I L)))) (J' := J) rfl ?_
    refine EV_iald (j := (tr_skI I L)) C (by decide +kernel) rfl (tq_toI _ tq_u_same (by have := k.2.1; omega)) (by have := k.2.1; omega) ?_
    refine EV_blk (own := 12) C rfl [(.goto 4, 0, 0, 0, 0)] (pc' := 62) (by decide +kernel) (lv' := [some (.ref 117)]) (st' := [.int ((tq_u I 117 19 (nI (tr_skI I L))) 119 (tr_skI I L))]) (I' := (tq_u I 117 19 (nI (tr_skI I L)))) (J' := J) rfl ?_
    exact EV_iret C hZ rfl (by decide +kernel) (Nat.le_refl _) (Nat.le_refl _) ⟨tq_some (by simp only [r_X12_here, if_neg h1]), rfl, rfl, by simp only [I_X12_here], rfl⟩
theorem fr_X12_here (I : tq_I) (L : Nat) {cz : Nat} (hc : cz ≠ 117) (jz : Nat) : I_X12_here I L cz jz = I cz jz := tq_u_cell hc
theorem fs_here (I : tq_I) (L j : Nat) (hj : j ≠ 19) : I_X12_here I L 117 j = I 117 j := tq_u_slot hj
theorem tr_tx.here {I : tq_I} {L : Nat} (k : tr_tx I L) : tr_tx (I_X12_here I L) L := k.set (tr_skI_le k).2
theorem tr_hereP {I : tq_I} {L : Nat} : I_X12_here I L 117 19 = nI (tr_skI I L) := tq_u_same
theorem tr_hereV {I : tq_I} {L : Nat} (k : tr_tx I L) : r_X12_here I L = if L ≤ tr_skI I L then (-1) else I 119 (tr_skI I L) := by
  have h := k.2.1
  have h2 := (tr_skI_le k).2
  unfold r_X12_here
  have q : (tq_u I 117 19 (nI (tr_skI I L)) 117 3 ≤ tq_u I 117 19 (nI (tr_skI I L)) 117 19) = (L ≤ tr_skI I L) := by
    rw [tq_u_same, tq_u_slot (by decide), k.1]
    exact propext (nI_leI (by omega) (by omega))
  simp only [q]
  split
  · rfl
  · rw [tq_u_cell (by decide)]
def r_X12_type (I : tq_I) (q : Int32) (L : Nat) : Int32 := (if (tq_b ((nI 0).toInt ≤ q.toInt ∧ q.toInt ≤ (nI 255).toInt)) = 0 then (-3) else (if (I 117 3) = (nI 150) then (-5) else ((tq_u (tq_u I 119 L q) 117 3 (((tq_u I 119 L q) 117 3) + (nI 1))) 117 3)))
def I_X12_type (I : tq_I) (q : Int32) (L : Nat) : tq_I := (if (tq_b ((nI 0).toInt ≤ q.toInt ∧ q.toInt ≤ (nI 255).toInt)) = 0 then I else (if (I 117 3) = (nI 150) then I else (tq_u (tq_u I 119 L q) 117 3 (((tq_u I 119 L q) 117 3) + (nI 1)))))
set_option maxRecDepth 20000 in
theorem c_X12_type (g : tq_G) (I : tq_I) (J : Int64) (q : Int32) (L : Nat) (hL : I 117 3 = nI L) (hL150 : L ≤ 150) : CT g mX12_type 1 0 0 [.ref 117, .int q] (tq_SC ++ tq_SR) tq_RR I J (tq_ret (tq_SC ++ tq_SR) tq_RR (some (.int (r_X12_type I q L))) (I_X12_type I q L) J) := by
  refine CT.ret kX12_type (Nat.le_of_ble_eq_true rfl) (fun x0 C hR hZ => ?_)
  refine EV_en (lv' := [some (.ref 117), some (.int q)]) 0 rfl ?_
  refine EV_blk (own := 12) C rfl [(.iload_n 1, 0, 0, 0, 0), (.iconst 0, 0, 0, 0, (nI 0)), (.sipush 255, 0, 0, 0, (nI 255))] (pc' := 5) (by decide +kernel) (lv' := [some (.ref 117), some (.int q)]) (st' := [.int (nI 255), .int (nI 0), .int q]) (I' := I) (J' := J) rfl ?_
  refine EV_cS (own := 12) (idx := 62) (μ' := mX12_in) (av := [.int q, .int (nI 0), .int (nI 255)]) (rest := []) C hR rfl (Or.inl ⟨896, by decide⟩) kX12_in sX12_in (c_X12_in g I J q (nI 0) (nI 255) ) (by decide +kernel) rfl (by decide) (Nat.le_of_ble_eq_true rfl) rfl ⟨Nat.zero_le _, Nat.zero_le _⟩ ?_
  refine EV_if_ne (off := 6) (tgt := 14) C (by decide +kernel) (by decide) (fun h1 => ?_) (fun h1 => ?_)
  · skip
    refine EV_blk (own := 12) C rfl [(.aload_n 0, 0, 0, 0, 0), (.getfield 179, 12, 3, 902, 0), (.sipush 150, 0, 0, 0, (nI 150))] (pc' := 21) (by decide +kernel) (lv' := [some (.ref 117), some (.int q)]) (st' := [.int (nI 150), .int (I 117 3)]) (I' := I) (J' := J) rfl ?_
    refine EV_icmp_ne (off := 6) (tgt := 27) C (by decide +kernel) (by decide) (fun h2 => ?_) (fun h2 => ?_)
    · skip
      have hne : L ≠ 150 := fun e => h2 (by rw [hL, e])
      refine EV_blk (own := 12) C rfl [(.aload_n 0, 0, 0, 0, 0), (.getfield 13, 12, 2, 901, 0), (.aload_n 0, 0, 0, 0, 0), (.getfield 179, 12, 3, 902, 0), (.iload_n 1, 0, 0, 0, 0)] (pc' := 36) (by decide +kernel) (lv' := [some (.ref 117), some (.int q)]) (st' := [.int q, .int (I 117 3), .ref 119]) (I' := I) (J' := J) rfl ?_
      refine EV_iast (j := L) C (by decide +kernel) rfl (tq_toI L hL (by omega)) (by omega) ?_
      refine EV_blk (own := 12) C rfl [(.aload_n 0, 0, 0, 0, 0), (.dup, 0, 0, 0, 0), (.getfield 179, 12, 3, 902, 0), (.iconst 1, 0, 0, 0, (nI 1)), (.iadd, 0, 0, 0, 0), (.putfield 179, 12, 3, 902, 0), (.aload_n 0, 0, 0, 0, 0), (.getfield 179, 12, 3, 902, 0)] (pc' := 51) (by decide +kernel) (lv' := [some (.ref 117), some (.int q)]) (st' := [.int ((tq_u (tq_u I 119 L q) 117 3 (((tq_u I 119 L q) 117 3) + (nI 1))) 117 3)]) (I' := (tq_u (tq_u I 119 L q) 117 3 (((tq_u I 119 L q) 117 3) + (nI 1)))) (J' := J) rfl ?_
      exact EV_iret C hZ rfl (by decide +kernel) (Nat.le_refl _) (Nat.le_refl _) ⟨tq_some (by simp only [r_X12_type, if_neg h1, if_neg h2]), rfl, rfl, by simp only [I_X12_type, if_neg h1, if_neg h2], rfl⟩
    · skip
      refine EV_blk (own := 12) C rfl [(.bipush (-5), 0, 0, 0, (-5))] (pc' := 26) (by decide +kernel) (lv' := [some (.ref 117), some (.int q)]) (st' := [.int (-5)]) (I' := I) (J' := J) rfl ?_
      exact EV_iret C hZ rfl (by decide +kernel) (Nat.le_refl _) (Nat.le_refl _) ⟨tq_some (by simp only [r_X12_type, if_neg h1, if_pos h2]), rfl, rfl, by simp only [I_X12_type, if_neg h1, if_pos h2], rfl⟩
  · skip
    refine EV_blk (own := 12) C rfl [(.bipush (-3), 0, 0, 0, (-3))] (pc' := 13) (by decide +kernel) (lv' := [some (.ref 117), some (.int q)]) (st' := [.int (-3)]) (I' := I) (J' := J) rfl ?_
    exact EV_iret C hZ rfl (by decide +kernel) (Nat.le_refl _) (Nat.le_refl _) ⟨tq_some (by simp only [r_X12_type, if_pos h1]), rfl, rfl, by simp only [I_X12_type, if_pos h1], rfl⟩
theorem fr_X12_type (I : tq_I) (q : Int32) (L : Nat) {cz : Nat} (hc : cz ≠ 117 ∧ cz ≠ 119) (jz : Nat) : I_X12_type I q L cz jz = I cz jz := by
  obtain ⟨hc0, hc1⟩ := hc
  simp only [I_X12_type]
  (repeat' split) <;> simp (disch := first | assumption | (simp only [ne_eq] at *; simp [*])) [tq_u, tq_cp, hc0, hc1, fr_X12_touches, fr_ta1, fr_X12_touchesAll, fr_cps1, fr_X12_copies, fr_sav, fr_bg1, fr_bg2, fr_X12_begins, fr_ly1, fr_X12_lays, fr_bgn1, fr_X12_begin, fr_X12_setCorner, fr_fi1, fr_X12_fill, fr_fg1, fr_X12_forgets, fr_rc1, fr_rc2, fr_X12_reaches, fr_mfl1, fr_X12_flood, fr_mrg1, fr_X12_regions, fr_mra1, fr_X12_raise, fr_sp1, fr_X12_setPath, fr_sr1, fr_sr2, fr_X12_setRank, fr_X12_becomes, fr_X12_setTiles, fr_X12_setVariants, fr_X12_setSeed, fr_X12_setBorder, fr_X12_makesUp, fr_X12_finds, fr_X12_parts, fr_put, fr_mfy2, fr_X12_findsLayers, fr_mfp1, fr_mfp2, fr_X12_findsPieces, fr_X12_layers, fr_X12_layer, fr_X12_pieces, fr_X12_piece, fr_X12_isStaleAt, fr_mpa1, fr_X12_paints, fr_X12_isStale, fr_mst2, fr_X12_stale, fr_mpt1, fr_X12_paint, fr_X12_paintCell, fr_mfk2, fr_mfk3, fr_X12_findsKinds, fr_X12_kinds, fr_X12_kind, fr_X12_undo, fr_X12_here]
def r_X12_clearText (I : tq_I)  : Int32 := (I 117 3)
def I_X12_clearText (I : tq_I)  : tq_I := (tq_u I 117 3 (nI 0))
set_option maxRecDepth 20000 in
theorem c_X12_clearText (g : tq_G) (I : tq_I) (J : Int64)   : CT g mX12_clearText 0 0 0 [.ref 117] (tq_SC ++ tq_SR) tq_RR I J (tq_ret (tq_SC ++ tq_SR) tq_RR (some (.int (r_X12_clearText I))) (I_X12_clearText I) J) := by
  refine CT.ret kX12_clearText (Nat.le_of_ble_eq_true rfl) (fun x0 C hR hZ => ?_)
  refine EV_en (lv' := [some (.ref 117), none]) 1 rfl ?_
  refine EV_blk (own := 12) C rfl [(.aload_n 0, 0, 0, 0, 0), (.getfield 179, 12, 3, 902, 0), (.istore_n 1, 0, 0, 0, 0), (.aload_n 0, 0, 0, 0, 0), (.iconst 0, 0, 0, 0, (nI 0)), (.putfield 179, 12, 3, 902, 0), (.iload_n 1, 0, 0, 0, 0)] (pc' := 11) (by decide +kernel) (lv' := [some (.ref 117), some (.int (I 117 3))]) (st' := [.int (I 117 3)]) (I' := (tq_u I 117 3 (nI 0))) (J' := J) rfl ?_
  exact EV_iret C hZ rfl (by decide +kernel) (Nat.le_refl _) (Nat.le_refl _) ⟨tq_some (by simp only [r_X12_clearText]), rfl, rfl, by simp only [I_X12_clearText], rfl⟩
theorem fr_X12_clearText (I : tq_I)  {cz : Nat} (hc : cz ≠ 117) (jz : Nat) : I_X12_clearText I  cz jz = I cz jz := by
  have hc0 := hc
  simp only [I_X12_clearText]
  (repeat' split) <;> simp (disch := first | assumption | (simp only [ne_eq] at *; simp [*])) [tq_u, tq_cp, hc0, fr_X12_touches, fr_ta1, fr_X12_touchesAll, fr_cps1, fr_X12_copies, fr_sav, fr_bg1, fr_bg2, fr_X12_begins, fr_ly1, fr_X12_lays, fr_bgn1, fr_X12_begin, fr_X12_setCorner, fr_fi1, fr_X12_fill, fr_fg1, fr_X12_forgets, fr_rc1, fr_rc2, fr_X12_reaches, fr_mfl1, fr_X12_flood, fr_mrg1, fr_X12_regions, fr_mra1, fr_X12_raise, fr_sp1, fr_X12_setPath, fr_sr1, fr_sr2, fr_X12_setRank, fr_X12_becomes, fr_X12_setTiles, fr_X12_setVariants, fr_X12_setSeed, fr_X12_setBorder, fr_X12_makesUp, fr_X12_finds, fr_X12_parts, fr_put, fr_mfy2, fr_X12_findsLayers, fr_mfp1, fr_mfp2, fr_X12_findsPieces, fr_X12_layers, fr_X12_layer, fr_X12_pieces, fr_X12_piece, fr_X12_isStaleAt, fr_mpa1, fr_X12_paints, fr_X12_isStale, fr_mst2, fr_X12_stale, fr_mpt1, fr_X12_paint, fr_X12_paintCell, fr_mfk2, fr_mfk3, fr_X12_findsKinds, fr_X12_kinds, fr_X12_kind, fr_X12_undo, fr_X12_here, fr_X12_type]
def f_mnm1 (I : tq_I) (L : Nat) (i : Nat) (a : Int32 × Int32) : Option (Int32 × Int32) := (if (tq_b ((nI 48).toInt ≤ (I 119 (tq_N a.1)).toInt ∧ (I 119 (tq_N a.1)).toInt ≤ (nI 57).toInt)) = 0 then none else (if (nI 3) ≤ (a.1 - (I 117 19)) then (some ((a.1 + (nI 1)), a.2)) else (some ((a.1 + (nI 1)), ((((nI 10) * a.2) + (I 119 (tq_N a.1))) - (nI 48))))))
set_option maxRecDepth 20000 in
theorem lp_mnm1 {g : tq_G} {x0 : tq_X} (C : tq_C g mX12_number x0) (hR : tq_ht x0 1 0 0) (I : tq_I) (J : Int64) (L : Nat) (k : tr_tx I L) : ∀ (n i : Nat) (a : Int32 × Int32), (0 ≤ a.1.toInt ∧ a.1.toInt + (n : Int) = (L : Int)) → EV g mX12_number x0 0 0 82 [some (.ref 117), some (.int ((tq_wh (f_mnm1 I L) n i a).1)), some (.int ((tq_wh (f_mnm1 I L) n i a).2))] [] (tq_SC ++ tq_SR) tq_RR I J → EV g mX12_number x0 0 0 23 [some (.ref 117), some (.int a.1), some (.int a.2)] [] (tq_SC ++ tq_SR) tq_RR I J := by
  intro n
  induction n with
  | zero =>
    intro i a hi kk
    rw [show tq_wh _ 0 i a = a from rfl] at kk
    refine EV_blk (own := 12) C rfl [(.iload_n 1, 0, 0, 0, 0), (.aload_n 0, 0, 0, 0, 0), (.getfield 179, 12, 3, 902, 0)] (pc' := 28) (by decide +kernel) (lv' := [some (.ref 117), some (.int a.1), some (.int a.2)]) (st' := [.int (I 117 3), .int a.1]) (I' := I) (J' := J) rfl ?_
    refine EV_icmp_ge (off := 54) (tgt := 82) C (by decide +kernel) (by decide) (fun h1 => ?_) (fun h1 => ?_)
    · skip
      exact kk
    · skip
      exact absurd (by rw [k.1]; have := k.2.1; simp (disch := omega) only [Int32.le_iff_toInt_le, nI_toInt]; omega) h1
  | succ n ih =>
    intro i a hi kk
    refine EV_blk (own := 12) C rfl [(.iload_n 1, 0, 0, 0, 0), (.aload_n 0, 0, 0, 0, 0), (.getfield 179, 12, 3, 902, 0)] (pc' := 28) (by decide +kernel) (lv' := [some (.ref 117), some (.int a.1), some (.int a.2)]) (st' := [.int (I 117 3), .int a.1]) (I' := I) (J' := J) rfl ?_
    refine EV_icmp_ge (off := 54) (tgt := 82) C (by decide +kernel) (by decide) (fun h1 => ?_) (fun h1 => ?_)
    · skip
      exact absurd h1 (by rw [k.1]; have := k.2.1; simp (disch := omega) only [Int32.le_iff_toInt_le, nI_toInt]; omega)
    · skip
      refine EV_blk (own := 12) C rfl [(.aload_n 0, 0, 0, 0, 0), (.getfield 13, 12, 2, 901, 0), (.iload_n 1, 0, 0, 0, 0)] (pc' := 36) (by decide +kernel) (lv' := [some (.ref 117), some (.int a.1), some (.int a.2)]) (st' := [.int a.1, .ref 119]) (I' := I) (J' := J) rfl ?_
      refine EV_iald (j := (tq_N a.1)) C (by decide +kernel) rfl (tq_NI hi.1) (tq_Nlt hi.1 (by have := k.2.1; omega)) ?_
      refine EV_blk (own := 12) C rfl [(.bipush 48, 0, 0, 0, (nI 48)), (.bipush 57, 0, 0, 0, (nI 57))] (pc' := 41) (by decide +kernel) (lv' := [some (.ref 117), some (.int a.1), some (.int a.2)]) (st' := [.int (nI 57), .int (nI 48), .int (I 119 (tq_N a.1))]) (I' := I) (J' := J) rfl ?_
      refine EV_cS (own := 12) (idx := 62) (μ' := mX12_in) (av := [.int (I 119 (tq_N a.1)), .int (nI 48), .int (nI 57)]) (rest := []) C hR rfl (Or.inl ⟨896, by decide⟩) kX12_in sX12_in (c_X12_in g I J (I 119 (tq_N a.1)) (nI 48) (nI 57) ) (by decide +kernel) rfl (by decide) (Nat.le_of_ble_eq_true rfl) rfl ⟨Nat.zero_le _, Nat.zero_le _⟩ ?_
      refine EV_if_eq (off := 38) (tgt := 82) C (by decide +kernel) (by decide) (fun h2 => ?_) (fun h2 => ?_)
      · skip
        rw [tq_wh_none (show (f_mnm1 I L) i a = none from by simp only [f_mnm1, if_neg h1, if_pos h2])] at kk
        exact kk
      · skip
        refine EV_blk (own := 12) C rfl [(.iload_n 1, 0, 0, 0, 0), (.aload_n 0, 0, 0, 0, 0), (.getfield 182, 12, 19, 918, 0), (.isub, 0, 0, 0, 0), (.iconst 3, 0, 0, 0, (nI 3))] (pc' := 54) (by decide +kernel) (lv' := [some (.ref 117), some (.int a.1), some (.int a.2)]) (st' := [.int (nI 3), .int (a.1 - (I 117 19))]) (I' := I) (J' := J) rfl ?_
        refine EV_icmp_ge (off := 20) (tgt := 74) C (by decide +kernel) (by decide) (fun h3 => ?_) (fun h3 => ?_)
        · skip
          refine EV_blk (own := 12) C rfl [(.iload_n 2, 0, 0, 0, 0), (.istore_n 2, 0, 0, 0, 0), (.iinc 1 1, 0, 0, 0, (nI 1)), (.goto (-56), 0, 0, 0, 0)] (pc' := 23) (by decide +kernel) (lv' := [some (.ref 117), some (.int (a.1 + (nI 1))), some (.int a.2)]) (st' := []) (I' := I) (J' := J) rfl ?_
          rw [tq_wh_some (show (f_mnm1 I L) i a = some ((a.1 + (nI 1)), a.2) from by simp only [f_mnm1, if_neg h1, if_neg h2, if_pos h3])] at kk
          have ihx := ih (i + 1) ((a.1 + (nI 1)), a.2)
          dsimp only at ihx
          exact ihx (by have := tr_ainc (n := 150) hi.1 (by have := k.2.1; omega) (by decide); omega) kk
        · skip
          refine EV_blk (own := 12) C rfl [(.bipush 10, 0, 0, 0, (nI 10)), (.iload_n 2, 0, 0, 0, 0), (.imul, 0, 0, 0, 0), (.aload_n 0, 0, 0, 0, 0), (.getfield 13, 12, 2, 901, 0), (.iload_n 1, 0, 0, 0, 0)] (pc' := 66) (by decide +kernel) (lv' := [some (.ref 117), some (.int a.1), some (.int a.2)]) (st' := [.int a.1, .ref 119, .int ((nI 10) * a.2)]) (I' := I) (J' := J) rfl ?_
          refine EV_iald (j := (tq_N a.1)) C (by decide +kernel) rfl (tq_NI hi.1) (tq_Nlt hi.1 (by have := k.2.1; omega)) ?_
          refine EV_blk (own := 12) C rfl [(.iadd, 0, 0, 0, 0), (.bipush 48, 0, 0, 0, (nI 48)), (.isub, 0, 0, 0, 0), (.goto 4, 0, 0, 0, 0), (.istore_n 2, 0, 0, 0, 0), (.iinc 1 1, 0, 0, 0, (nI 1)), (.goto (-56), 0, 0, 0, 0)] (pc' := 23) (by decide +kernel) (lv' := [some (.ref 117), some (.int (a.1 + (nI 1))), some (.int ((((nI 10) * a.2) + (I 119 (tq_N a.1))) - (nI 48)))]) (st' := []) (I' := I) (J' := J) rfl ?_
          rw [tq_wh_some (show (f_mnm1 I L) i a = some ((a.1 + (nI 1)), ((((nI 10) * a.2) + (I 119 (tq_N a.1))) - (nI 48))) from by simp only [f_mnm1, if_neg h1, if_neg h2, if_neg h3])] at kk
          have ihx := ih (i + 1) ((a.1 + (nI 1)), ((((nI 10) * a.2) + (I 119 (tq_N a.1))) - (nI 48)))
          dsimp only at ihx
          exact ihx (by have := tr_ainc (n := 150) hi.1 (by have := k.2.1; omega) (by decide); omega) kk
theorem tr_nm1b {I : tq_I} {L : Nat} (k : tr_tx I L) : ∀ (n i : Nat) (a : Int32 × Int32), 0 ≤ a.1.toInt → a.1.toInt + (n : Int) = (L : Int) → a.1.toInt ≤ (tq_wh (f_mnm1 I L) n i a).1.toInt ∧ (tq_wh (f_mnm1 I L) n i a).1.toInt ≤ (L : Int)
  | 0, i, a, h0, h1 => by
    show a.1.toInt ≤ a.1.toInt ∧ a.1.toInt ≤ (L : Int)
    omega
  | n + 1, i, a, h0, h1 => by
    have hk := k.2.1
    have h2 := tr_ainc (n := 150) h0 (by omega) (by decide)
    match hf : f_mnm1 I L i a with
    | none => rw [tq_wh_none hf]; omega
    | some b =>
      rw [tq_wh_some hf]
      have e : b.1 = a.1 + nI 1 := by
        unfold f_mnm1 at hf
        split at hf
        · cases hf
        · split at hf
          · rw [← Option.some.inj hf]
          · rw [← Option.some.inj hf]
      have := tr_nm1b k n (i + 1) b (by rw [e]; omega) (by rw [e]; omega)
      rw [e] at this
      omega
def r_X12_number (I : tq_I) (L : Nat) : Int32 := (if (tq_b ((nI 48).toInt ≤ (r_X12_here I L).toInt ∧ (r_X12_here I L).toInt ≤ (nI 57).toInt)) = 0 then (nI 1) else (if (nI 2) < ((tq_wh (f_mnm1 (I_X12_here I L) L) (L - tq_N (I_X12_here I L 117 19)) 0 (((I_X12_here I L) 117 19), (nI 0))).1 - ((I_X12_here I L) 117 19)) then (-1) else (if (tq_b ((nI 1).toInt ≤ ((tq_wh (f_mnm1 (I_X12_here I L) L) (L - tq_N (I_X12_here I L 117 19)) 0 (((I_X12_here I L) 117 19), (nI 0))).2).toInt ∧ ((tq_wh (f_mnm1 (I_X12_here I L) L) (L - tq_N (I_X12_here I L 117 19)) 0 (((I_X12_here I L) 117 19), (nI 0))).2).toInt ≤ (nI 11).toInt)) = 0 then (-1) else (tq_wh (f_mnm1 (I_X12_here I L) L) (L - tq_N (I_X12_here I L 117 19)) 0 (((I_X12_here I L) 117 19), (nI 0))).2)))
def I_X12_number (I : tq_I) (L : Nat) : tq_I := (if (tq_b ((nI 48).toInt ≤ (r_X12_here I L).toInt ∧ (r_X12_here I L).toInt ≤ (nI 57).toInt)) = 0 then (I_X12_here I L) else (if (nI 2) < ((tq_wh (f_mnm1 (I_X12_here I L) L) (L - tq_N (I_X12_here I L 117 19)) 0 (((I_X12_here I L) 117 19), (nI 0))).1 - ((I_X12_here I L) 117 19)) then (I_X12_here I L) else (if (tq_b ((nI 1).toInt ≤ ((tq_wh (f_mnm1 (I_X12_here I L) L) (L - tq_N (I_X12_here I L 117 19)) 0 (((I_X12_here I L) 117 19), (nI 0))).2).toInt ∧ ((tq_wh (f_mnm1 (I_X12_here I L) L) (L - tq_N (I_X12_here I L 117 19)) 0 (((I_X12_here I L) 117 19), (nI 0))).2).toInt ≤ (nI 11).toInt)) = 0 then (I_X12_here I L) else (tq_u (I_X12_here I L) 117 19 ((tq_wh (f_mnm1 (I_X12_here I L) L) (L - tq_N (I_X12_here I L 117 19)) 0 (((I_X12_here I L) 117 19), (nI 0))).1)))))
set_option maxRecDepth 20000 in
theorem c_X12_number (g : tq_G) (I : tq_I) (J : Int64) (L : Nat) (k : tr_tx I L) : CT g mX12_number 1 0 0 [.ref 117] (tq_SC ++ tq_SR) tq_RR I J (tq_ret (tq_SC ++ tq_SR) tq_RR (some (.int (r_X12_number I L))) (I_X12_number I L) J) := by
  refine CT.ret kX12_number (Nat.le_of_ble_eq_true rfl) (fun x0 C hR hZ => ?_)
  refine EV_en (lv' := [some (.ref 117), none, none]) 2 rfl ?_
  refine EV_blk (own := 12) C rfl [(.aload_n 0, 0, 0, 0, 0)] (pc' := 1) (by decide +kernel) (lv' := [some (.ref 117), none, none]) (st' := [.ref 117]) (I' := I) (J' := J) rfl ?_
  refine EV_cV (own := 12) (idx := 185) (μ' := mX12_here) (b := 117) (cb := 12) (av := []) (rest := []) C hR rfl (Or.inl ⟨1253, by decide⟩) kX12_here sX12_here (c_X12_here g I J L k) rfl rfl (by decide +kernel) rfl (by decide) (Nat.le_of_ble_eq_true rfl) rfl ⟨Nat.zero_le _, Nat.zero_le _⟩ ?_
  refine EV_blk (own := 12) C rfl [(.bipush 48, 0, 0, 0, (nI 48)), (.bipush 57, 0, 0, 0, (nI 57))] (pc' := 8) (by decide +kernel) (lv' := [some (.ref 117), none, none]) (st' := [.int (nI 57), .int (nI 48), .int (r_X12_here I L)]) (I' := (I_X12_here I L)) (J' := J) rfl ?_
  refine EV_cS (own := 12) (idx := 62) (μ' := mX12_in) (av := [.int (r_X12_here I L), .int (nI 48), .int (nI 57)]) (rest := []) C hR rfl (Or.inl ⟨896, by decide⟩) kX12_in sX12_in (c_X12_in g (I_X12_here I L) J (r_X12_here I L) (nI 48) (nI 57) ) (by decide +kernel) rfl (by decide) (Nat.le_of_ble_eq_true rfl) rfl ⟨Nat.zero_le _, Nat.zero_le _⟩ ?_
  refine EV_if_ne (off := 5) (tgt := 16) C (by decide +kernel) (by decide) (fun h1 => ?_) (fun h1 => ?_)
  · skip
    refine EV_blk (own := 12) C rfl [(.aload_n 0, 0, 0, 0, 0), (.getfield 182, 12, 19, 918, 0), (.istore_n 1, 0, 0, 0, 0), (.iconst 0, 0, 0, 0, (nI 0)), (.istore_n 2, 0, 0, 0, 0)] (pc' := 23) (by decide +kernel) (lv' := [some (.ref 117), some (.int ((I_X12_here I L) 117 19)), some (.int (nI 0))]) (st' := []) (I' := (I_X12_here I L)) (J' := J) rfl ?_
    have k1 := k.here
    have hp1 := k1.p
    have hk15 := k.2.1
    have hlp := lp_mnm1 (g := g) C hR (I_X12_here I L) J L k1 (L - tq_N (I_X12_here I L 117 19)) 0 (((I_X12_here I L) 117 19), (nI 0))
    dsimp only at hlp
    refine hlp ⟨k1.2.2.1, by have := tq_NI k1.2.2.1; omega⟩ ?_
    clear hlp
    refine EV_blk (own := 12) C rfl [(.iload_n 1, 0, 0, 0, 0), (.aload_n 0, 0, 0, 0, 0), (.getfield 182, 12, 19, 918, 0), (.isub, 0, 0, 0, 0), (.iconst 2, 0, 0, 0, (nI 2))] (pc' := 89) (by decide +kernel) (lv' := [some (.ref 117), some (.int ((tq_wh (f_mnm1 (I_X12_here I L) L) (L - tq_N (I_X12_here I L 117 19)) 0 (((I_X12_here I L) 117 19), (nI 0))).1)), some (.int ((tq_wh (f_mnm1 (I_X12_here I L) L) (L - tq_N (I_X12_here I L 117 19)) 0 (((I_X12_here I L) 117 19), (nI 0))).2))]) (st' := [.int (nI 2), .int ((tq_wh (f_mnm1 (I_X12_here I L) L) (L - tq_N (I_X12_here I L 117 19)) 0 (((I_X12_here I L) 117 19), (nI 0))).1 - ((I_X12_here I L) 117 19))]) (I' := (I_X12_here I L)) (J' := J) rfl ?_
    refine EV_icmp_gt (off := 13) (tgt := 102) C (by decide +kernel) (by decide) (fun h2 => ?_) (fun h2 => ?_)
    · skip
      refine EV_blk (own := 12) C rfl [(.iconst (-1), 0, 0, 0, (-1))] (pc' := 103) (by decide +kernel) (lv' := [some (.ref 117), some (.int ((tq_wh (f_mnm1 (I_X12_here I L) L) (L - tq_N (I_X12_here I L 117 19)) 0 (((I_X12_here I L) 117 19), (nI 0))).1)), some (.int ((tq_wh (f_mnm1 (I_X12_here I L) L) (L - tq_N (I_X12_here I L 117 19)) 0 (((I_X12_here I L) 117 19), (nI 0))).2))]) (st' := [.int (-1)]) (I' := (I_X12_here I L)) (J' := J) rfl ?_
      exact EV_iret C hZ rfl (by decide +kernel) (Nat.le_refl _) (Nat.le_refl _) ⟨tq_some (by simp only [r_X12_number, if_neg h1, if_pos h2]), rfl, rfl, by simp only [I_X12_number, if_neg h1, if_pos h2], rfl⟩
    · skip
      refine EV_blk (own := 12) C rfl [(.iload_n 2, 0, 0, 0, 0), (.iconst 1, 0, 0, 0, (nI 1)), (.bipush 11, 0, 0, 0, (nI 11))] (pc' := 96) (by decide +kernel) (lv' := [some (.ref 117), some (.int ((tq_wh (f_mnm1 (I_X12_here I L) L) (L - tq_N (I_X12_here I L 117 19)) 0 (((I_X12_here I L) 117 19), (nI 0))).1)), some (.int ((tq_wh (f_mnm1 (I_X12_here I L) L) (L - tq_N (I_X12_here I L 117 19)) 0 (((I_X12_here I L) 117 19), (nI 0))).2))]) (st' := [.int (nI 11), .int (nI 1), .int ((tq_wh (f_mnm1 (I_X12_here I L) L) (L - tq_N (I_X12_here I L 117 19)) 0 (((I_X12_here I L) 117 19), (nI 0))).2)]) (I' := (I_X12_here I L)) (J' := J) rfl ?_
      refine EV_cS (own := 12) (idx := 62) (μ' := mX12_in) (av := [.int ((tq_wh (f_mnm1 (I_X12_here I L) L) (L - tq_N (I_X12_here I L 117 19)) 0 (((I_X12_here I L) 117 19), (nI 0))).2), .int (nI 1), .int (nI 11)]) (rest := []) C hR rfl (Or.inl ⟨896, by decide⟩) kX12_in sX12_in (c_X12_in g (I_X12_here I L) J ((tq_wh (f_mnm1 (I_X12_here I L) L) (L - tq_N (I_X12_here I L 117 19)) 0 (((I_X12_here I L) 117 19), (nI 0))).2) (nI 1) (nI 11) ) (by decide +kernel) rfl (by decide) (Nat.le_of_ble_eq_true rfl) rfl ⟨Nat.zero_le _, Nat.zero_le _⟩ ?_
      refine EV_if_ne (off := 5) (tgt := 104) C (by decide +kernel) (by decide) (fun h3 => ?_) (fun h3 => ?_)
      · skip
        refine EV_blk (own := 12) C rfl [(.aload_n 0, 0, 0, 0, 0), (.iload_n 1, 0, 0, 0, 0), (.putfield 182, 12, 19, 918, 0), (.iload_n 2, 0, 0, 0, 0)] (pc' := 110) (by decide +kernel) (lv' := [some (.ref 117), some (.int ((tq_wh (f_mnm1 (I_X12_here I L) L) (L - tq_N (I_X12_here I L 117 19)) 0 (((I_X12_here I L) 117 19), (nI 0))).1)), some (.int ((tq_wh (f_mnm1 (I_X12_here I L) L) (L - tq_N (I_X12_here I L 117 19)) 0 (((I_X12_here I L) 117 19), (nI 0))).2))]) (st' := [.int ((tq_wh (f_mnm1 (I_X12_here I L) L) (L - tq_N (I_X12_here I L 117 19)) 0 (((I_X12_here I L) 117 19), (nI 0))).2)]) (I' := (tq_u (I_X12_here I L) 117 19 ((tq_wh (f_mnm1 (I_X12_here I L) L) (L - tq_N (I_X12_here I L 117 19)) 0 (((I_X12_here I L) 117 19), (nI 0))).1))) (J' := J) rfl ?_
        exact EV_iret C hZ rfl (by decide +kernel) (Nat.le_refl _) (Nat.le_refl _) ⟨tq_some (by simp only [r_X12_number, if_neg h1, if_neg h2, if_neg h3]), rfl, rfl, by simp only [I_X12_number, if_neg h1, if_neg h2, if_neg h3], rfl⟩
      · skip
        refine EV_blk (own := 12) C rfl [(.iconst (-1), 0, 0, 0, (-1))] (pc' := 103) (by decide +kernel) (lv' := [some (.ref 117), some (.int ((tq_wh (f_mnm1 (I_X12_here I L) L) (L - tq_N (I_X12_here I L 117 19)) 0 (((I_X12_here I L) 117 19), (nI 0))).1)), some (.int ((tq_wh (f_mnm1 (I_X12_here I L) L) (L - tq_N (I_X12_here I L 117 19)) 0 (((I_X12_here I L) 117 19), (nI 0))).2))]) (st' := [.int (-1)]) (I' := (I_X12_here I L)) (J' := J) rfl ?_
        exact EV_iret C hZ rfl (by decide +kernel) (Nat.le_refl _) (Nat.le_refl _) ⟨tq_some (by simp only [r_X12_number, if_neg h1, if_neg h2, if_pos h3]), rfl, rfl, by simp only [I_X12_number, if_neg h1, if_neg h2, if_pos h3], rfl⟩
  · skip
    refine EV_blk (own := 12) C rfl [(.iconst 1, 0, 0, 0, (nI 1))] (pc' := 15) (by decide +kernel) (lv' := [some (.ref 117), none, none]) (st' := [.int (nI 1)]) (I' := (I_X12_here I L)) (J' := J) rfl ?_
    exact EV_iret C hZ rfl (by decide +kernel) (Nat.le_refl _) (Nat.le_refl _) ⟨tq_some (by simp only [r_X12_number, if_pos h1]), rfl, rfl, by simp only [I_X12_number, if_pos h1], rfl⟩
theorem fr_X12_number (I : tq_I) (L : Nat) {cz : Nat} (hc : cz ≠ 117) (jz : Nat) : I_X12_number I L cz jz = I cz jz := by
  have hc0 := hc
  simp only [I_X12_number]
  (repeat' split) <;> simp (disch := first | assumption | (simp only [ne_eq] at *; simp [*])) [tq_u, tq_cp, hc0, fr_X12_touches, fr_ta1, fr_X12_touchesAll, fr_cps1, fr_X12_copies, fr_sav, fr_bg1, fr_bg2, fr_X12_begins, fr_ly1, fr_X12_lays, fr_bgn1, fr_X12_begin, fr_X12_setCorner, fr_fi1, fr_X12_fill, fr_fg1, fr_X12_forgets, fr_rc1, fr_rc2, fr_X12_reaches, fr_mfl1, fr_X12_flood, fr_mrg1, fr_X12_regions, fr_mra1, fr_X12_raise, fr_sp1, fr_X12_setPath, fr_sr1, fr_sr2, fr_X12_setRank, fr_X12_becomes, fr_X12_setTiles, fr_X12_setVariants, fr_X12_setSeed, fr_X12_setBorder, fr_X12_makesUp, fr_X12_finds, fr_X12_parts, fr_put, fr_mfy2, fr_X12_findsLayers, fr_mfp1, fr_mfp2, fr_X12_findsPieces, fr_X12_layers, fr_X12_layer, fr_X12_pieces, fr_X12_piece, fr_X12_isStaleAt, fr_mpa1, fr_X12_paints, fr_X12_isStale, fr_mst2, fr_X12_stale, fr_mpt1, fr_X12_paint, fr_X12_paintCell, fr_mfk2, fr_mfk3, fr_X12_findsKinds, fr_X12_kinds, fr_X12_kind, fr_X12_undo, fr_X12_here, fr_X12_type, fr_X12_clearText]
def tq_wx {α : Type} (f : α → α ⊕ α) : Nat → α → α
  | 0, a => a
  | n + 1, a => match f a with
    | .inl b => tq_wx f n b
    | .inr b => b
theorem tq_wx_c {α : Type} {f : α → α ⊕ α} {n : Nat} {a b : α} (h : f a = .inl b) : tq_wx f (n + 1) a = tq_wx f n b := by simp only [tq_wx, h]
theorem tq_wx_x {α : Type} {f : α → α ⊕ α} {n : Nat} {a b : α} (h : f a = .inr b) : tq_wx f (n + 1) a = b := by simp only [tq_wx, h]
theorem tq_wxP {α : Type} {f : α → α ⊕ α} (P : α → Prop) (h1 : ∀ a b, P a → f a = .inl b → P b) (h2 : ∀ a b, P a → f a = .inr b → P b) : ∀ (n : Nat) (a : α), P a → P (tq_wx f n a)
  | 0, a, h => h
  | n + 1, a, h => by
    match hf : f a with
    | .inl b => rw [tq_wx_c hf]; exact tq_wxP P h1 h2 n b (h1 a b h hf)
    | .inr b => rw [tq_wx_x hf]; exact h2 a b h hf
/-- the counters of the reading -/
def tr_rs (I : tq_I) : Prop := (0 ≤ (I 117 22).toInt ∧ (I 117 22).toInt ≤ 10) ∧ (0 ≤ (I 117 23).toInt ∧ (I 117 23).toInt ≤ 11) ∧ 0 ≤ (I 117 21).toInt ∧ (I 117 21).toInt ≤ 11
theorem tr_rs.cong {I K : tq_I} (k : tr_rs I) (h1 : K 117 21 = I 117 21) (h2 : K 117 22 = I 117 22) (h3 : K 117 23 = I 117 23) : tr_rs K := by
  unfold tr_rs
  rw [h1, h2, h3]
  exact k
theorem fs_number (I : tq_I) (L j : Nat) (hj : j ≠ 19) : I_X12_number I L 117 j = I 117 j := by
  unfold I_X12_number
  (repeat' split) <;> simp (disch := exact hj) only [tq_u_slot, fs_here]
/-- what a number answers, and where it ends -/
theorem tr_num {I : tq_I} {L : Nat} (k : tr_tx I L) : (r_X12_number I L = (-1) ∨ (1 ≤ (r_X12_number I L).toInt ∧ (r_X12_number I L).toInt ≤ 11)) ∧ tr_tx (I_X12_number I L) L ∧ tq_N (I 117 19) ≤ tq_N (I_X12_number I L 117 19) := by
  have k1 := k.here
  have e1 : (nI 1).toInt = 1 := by decide
  have e11 : (nI 11).toInt = 11 := by decide
  have hs := tr_skI_le k
  have hk := k.2.1
  have hb := tr_nm1b k1 (L - tq_N (I_X12_here I L 117 19)) 0 (I_X12_here I L 117 19, nI 0) k1.2.2.1 (by have := tq_NI k1.2.2.1; have := k1.p.2; dsimp only; omega)
  have hp : tq_N (I_X12_here I L 117 19) = tr_skI I L := by rw [tr_hereP, tq_N_nI (by omega)]
  dsimp only at hb
  unfold r_X12_number I_X12_number
  generalize tq_wh (f_mnm1 (I_X12_here I L) L) (L - tq_N (I_X12_here I L 117 19)) 0 (I_X12_here I L 117 19, nI 0) = z at hb
  split
  · exact ⟨Or.inr (by omega), k1, by omega⟩
  · split
    · exact ⟨Or.inl rfl, k1, by omega⟩
    · split
      · exact ⟨Or.inl rfl, k1, by omega⟩
      · rename_i h3
        have h4 := tq_b10 h3
        have h5 := tq_nIN (show 0 ≤ z.1.toInt by have := k1.2.2.1; omega)
        have h6 : tq_N z.1 ≤ L := by unfold tq_N; omega
        refine ⟨Or.inr (by omega), ?_, ?_⟩
        · rw [h5]; exact k1.set h6
        · rw [tq_u_same]
          have h7 := tq_NI k1.2.2.1
          have h8 : (tq_N (I_X12_here I L 117 19) : Int) ≤ z.1.toInt := by omega
          have h9 : tq_N (I_X12_here I L 117 19) ≤ tq_N z.1 := by
            have := tq_NI (show 0 ≤ z.1.toInt by have := k1.2.2.1; omega)
            omega
          omega
def f_mri1 (m lt ms : Int32) (ro nw q : Nat) (i : Nat) (a : tq_I) : tq_I := (tq_u a 130 (11 * ro + nw + i) (lt - (nI 97)))
set_option maxRecDepth 20000 in
theorem lp_mri1 {g : tq_G} {x0 : tq_X} (C : tq_C g mX12_readsItem x0) (hR : tq_ht x0 2 0 0) (J : Int64) (m lt ms : Int32) (ro nw q : Nat) (hm : m = nI q) (hq : nw + q ≤ 11) (hro : ro ≤ 10) : ∀ (n i : Nat) (a : tq_I), i + n = q → (a 117 22 = nI ro ∧ a 117 23 = nI nw) → EV g mX12_readsItem x0 0 0 104 [some (.ref 117), some (.int m), some (.int lt), some (.int ms), some (.int (nI (i + n)))] [] (tq_SC ++ tq_SR) tq_RR (tq_it (f_mri1 m lt ms ro nw q) n i a) J → EV g mX12_readsItem x0 0 0 68 [some (.ref 117), some (.int m), some (.int lt), some (.int ms), some (.int (nI i))] [] (tq_SC ++ tq_SR) tq_RR a J := by
  intro n
  induction n with
  | zero =>
    intro i a hi hI kk
    rw [Nat.add_zero] at kk
    refine EV_blk (own := 12) C rfl [(.iload 4, 0, 0, 0, 0), (.iload_n 1, 0, 0, 0, 0)] (pc' := 71) (by decide +kernel) (lv' := [some (.ref 117), some (.int m), some (.int lt), some (.int ms), some (.int (nI i))]) (st' := [.int m, .int (nI i)]) (I' := a) (J' := J) rfl ?_
    refine EV_icmp_ge (off := 33) (tgt := 104) C (by decide +kernel) (by decide) (fun h1 => ?_) (fun h1 => ?_)
    · skip
      exact kk
    · skip
      exact absurd h1 (by simp (disch := omega) only [Int32.lt_iff_toInt_lt, Int32.le_iff_toInt_le, Int32.toInt_zero, nI_toInt, tq_m1, hm]; omega)
  | succ n ih =>
    intro i a hi hI kk
    rw [show i + (n + 1) = (i + 1) + n by omega] at kk
    refine EV_blk (own := 12) C rfl [(.iload 4, 0, 0, 0, 0), (.iload_n 1, 0, 0, 0, 0)] (pc' := 71) (by decide +kernel) (lv' := [some (.ref 117), some (.int m), some (.int lt), some (.int ms), some (.int (nI i))]) (st' := [.int m, .int (nI i)]) (I' := a) (J' := J) rfl ?_
    refine EV_icmp_ge (off := 33) (tgt := 104) C (by decide +kernel) (by decide) (fun h1 => ?_) (fun h1 => ?_)
    · skip
      exact absurd h1 (by simp (disch := omega) only [Int32.lt_iff_toInt_lt, Int32.le_iff_toInt_le, Int32.toInt_zero, nI_toInt, tq_m1, hm]; omega)
    · skip
      refine EV_blk (own := 12) C rfl [(.aload_n 0, 0, 0, 0, 0), (.getfield 47, 12, 20, 919, 0), (.bipush 11, 0, 0, 0, (nI 11)), (.aload_n 0, 0, 0, 0, 0), (.getfield 192, 12, 22, 921, 0), (.imul, 0, 0, 0, 0), (.aload_n 0, 0, 0, 0, 0), (.getfield 198, 12, 23, 922, 0), (.iadd, 0, 0, 0, 0), (.iload 4, 0, 0, 0, 0), (.iadd, 0, 0, 0, 0), (.iload_n 2, 0, 0, 0, 0), (.bipush 97, 0, 0, 0, (nI 97)), (.isub, 0, 0, 0, 0)] (pc' := 97) (by decide +kernel) (lv' := [some (.ref 117), some (.int m), some (.int lt), some (.int ms), some (.int (nI i))]) (st' := [.int (lt - (nI 97)), .int ((((nI 11) * (a 117 22)) + (a 117 23)) + (nI i)), .ref 130]) (I' := a) (J' := J) rfl ?_
      refine EV_iast (j := (11 * ro + nw + i)) C (by decide +kernel) rfl (tq_toI _ (by rw [hI.1, hI.2]; simp only [tq_mul, nI_add]) (by omega)) (by omega) ?_
      refine EV_blk (own := 12) C rfl [(.iinc 4 1, 0, 0, 0, (nI 1)), (.goto (-33), 0, 0, 0, 0)] (pc' := 68) (by decide +kernel) (lv' := [some (.ref 117), some (.int m), some (.int lt), some (.int ms), some (.int ((nI i) + (nI 1)))]) (st' := []) (I' := (tq_u a 130 (11 * ro + nw + i) (lt - (nI 97)))) (J' := J) rfl ?_
      rw [show ((nI i) + (nI 1)) = (nI (i + 1)) from by simp (disch := omega) only [nI_add, tq_mul] <;> exact congrArg nI (by omega)]
      rw [tq_its, show (f_mri1 m lt ms ro nw q) i a = (tq_u a 130 (11 * ro + nw + i) (lt - (nI 97))) from by simp only [f_mri1, if_neg h1]] at kk
      exact ih (i + 1) (tq_u a 130 (11 * ro + nw + i) (lt - (nI 97))) (by omega) ⟨by rw [tq_u_cell (by decide)]; exact hI.1, by rw [tq_u_cell (by decide)]; exact hI.2⟩ kk
theorem fr_mri1 (m lt ms : Int32) (ro nw q : Nat) {cz : Nat} (hc : cz ≠ 130) (n i : Nat) (a : tq_I) (jz : Nat) : (tq_it (f_mri1 m lt ms ro nw q) n i a) cz jz = a cz jz := by
  have hc0 := hc
  refine tq_itF (fun i a j => ?_) n i a jz
  simp only [f_mri1]
  (repeat' split) <;> simp (disch := first | assumption | (simp only [ne_eq] at *; simp [*])) [tq_u, tq_cp, hc0, fr_X12_touches, fr_ta1, fr_X12_touchesAll, fr_cps1, fr_X12_copies, fr_sav, fr_bg1, fr_bg2, fr_X12_begins, fr_ly1, fr_X12_lays, fr_bgn1, fr_X12_begin, fr_X12_setCorner, fr_fi1, fr_X12_fill, fr_fg1, fr_X12_forgets, fr_rc1, fr_rc2, fr_X12_reaches, fr_mfl1, fr_X12_flood, fr_mrg1, fr_X12_regions, fr_mra1, fr_X12_raise, fr_sp1, fr_X12_setPath, fr_sr1, fr_sr2, fr_X12_setRank, fr_X12_becomes, fr_X12_setTiles, fr_X12_setVariants, fr_X12_setSeed, fr_X12_setBorder, fr_X12_makesUp, fr_X12_finds, fr_X12_parts, fr_put, fr_mfy2, fr_X12_findsLayers, fr_mfp1, fr_mfp2, fr_X12_findsPieces, fr_X12_layers, fr_X12_layer, fr_X12_pieces, fr_X12_piece, fr_X12_isStaleAt, fr_mpa1, fr_X12_paints, fr_X12_isStale, fr_mst2, fr_X12_stale, fr_mpt1, fr_X12_paint, fr_X12_paintCell, fr_mfk2, fr_mfk3, fr_X12_findsKinds, fr_X12_kinds, fr_X12_kind, fr_X12_undo, fr_X12_here, fr_X12_type, fr_X12_clearText, fr_X12_number]
theorem tr_itq {nw m : Int32} {b : Nat} (h1 : 0 ≤ nw.toInt ∧ nw.toInt ≤ 11) (h2 : 1 ≤ m.toInt ∧ m.toInt ≤ 11) (ms : Int32) (h3 : ms.toInt ≤ 11) (h : nw + m ≤ ms) : tq_N nw + tq_N m ≤ 11 ∧ nw + m = nI (tq_N nw + tq_N m) := by
  have e1 := tq_nIN h1.1
  have e2 := tq_nIN (show 0 ≤ m.toInt by omega)
  have b1 : tq_N nw ≤ 11 := by unfold tq_N; omega
  have b2 : tq_N m ≤ 11 := by unfold tq_N; omega
  generalize tq_N nw = u at e1 b1
  generalize tq_N m = v at e2 b2
  subst e1
  subst e2
  rw [nI_add] at h ⊢
  rw [Int32.le_iff_toInt_le, nI_toInt (by omega)] at h
  exact ⟨by omega, rfl⟩
def r_X12_readsItem (I : tq_I) (L : Nat) : Int32 := (if ((I_X12_here (I_X12_number I L) L) 117 22) = 0 then (if (r_X12_number I L) = (-1) then (nI 0) else (if (tq_b ((nI 97).toInt ≤ (r_X12_here (I_X12_number I L) L).toInt ∧ (r_X12_here (I_X12_number I L) L).toInt ≤ (nI 102).toInt)) = 0 then (nI 0) else (if (((I_X12_here (I_X12_number I L) L) 117 23) + (r_X12_number I L)) ≤ (nI 11) then (nI 1) else (nI 0)))) else (if (r_X12_number I L) = (-1) then (nI 0) else (if (tq_b ((nI 97).toInt ≤ (r_X12_here (I_X12_number I L) L).toInt ∧ (r_X12_here (I_X12_number I L) L).toInt ≤ (nI 102).toInt)) = 0 then (nI 0) else (if (((I_X12_here (I_X12_number I L) L) 117 23) + (r_X12_number I L)) ≤ ((I_X12_here (I_X12_number I L) L) 117 21) then (nI 1) else (nI 0)))))
def I_X12_readsItem (I : tq_I) (L : Nat) : tq_I := (if ((I_X12_here (I_X12_number I L) L) 117 22) = 0 then (if (r_X12_number I L) = (-1) then (I_X12_here (I_X12_number I L) L) else (if (tq_b ((nI 97).toInt ≤ (r_X12_here (I_X12_number I L) L).toInt ∧ (r_X12_here (I_X12_number I L) L).toInt ≤ (nI 102).toInt)) = 0 then (I_X12_here (I_X12_number I L) L) else (if (((I_X12_here (I_X12_number I L) L) 117 23) + (r_X12_number I L)) ≤ (nI 11) then (tq_u (tq_it (f_mri1 (r_X12_number I L) (r_X12_here (I_X12_number I L) L) (nI 11) (tq_N (I 117 22)) (tq_N (I 117 23)) (tq_N (r_X12_number I L))) (tq_N (r_X12_number I L)) 0 (tq_u (I_X12_here (I_X12_number I L) L) 117 19 (((I_X12_here (I_X12_number I L) L) 117 19) + (nI 1)))) 117 23 (((tq_it (f_mri1 (r_X12_number I L) (r_X12_here (I_X12_number I L) L) (nI 11) (tq_N (I 117 22)) (tq_N (I 117 23)) (tq_N (r_X12_number I L))) (tq_N (r_X12_number I L)) 0 (tq_u (I_X12_here (I_X12_number I L) L) 117 19 (((I_X12_here (I_X12_number I L) L) 117 19) + (nI 1)))) 117 23) + (r_X12_number I L))) else (I_X12_here (I_X12_number I L) L)))) else (if (r_X12_number I L) = (-1) then (I_X12_here (I_X12_number I L) L) else (if (tq_b ((nI 97).toInt ≤ (r_X12_here (I_X12_number I L) L).toInt ∧ (r_X12_here (I_X12_number I L) L).toInt ≤ (nI 102).toInt)) = 0 then (I_X12_here (I_X12_number I L) L) else (if (((I_X12_here (I_X12_number I L) L) 117 23) + (r_X12_number I L)) ≤ ((I_X12_here (I_X12_number I L) L) 117 21) then (tq_u (tq_it (f_mri1 (r_X12_number I L) (r_X12_here (I_X12_number I L) L) ((I_X12_here (I_X12_number I L) L) 117 21) (tq_N (I 117 22)) (tq_N (I 117 23)) (tq_N (r_X12_number I L))) (tq_N (r_X12_number I L)) 0 (tq_u (I_X12_here (I_X12_number I L) L) 117 19 (((I_X12_here (I_X12_number I L) L) 117 19) + (nI 1)))) 117 23 (((tq_it (f_mri1 (r_X12_number I L) (r_X12_here (I_X12_number I L) L) ((I_X12_here (I_X12_number I L) L) 117 21) (tq_N (I 117 22)) (tq_N (I 117 23)) (tq_N (r_X12_number I L))) (tq_N (r_X12_number I L)) 0 (tq_u (I_X12_here (I_X12_number I L) L) 117 19 (((I_X12_here (I_X12_number I L) L) 117 19) + (nI 1)))) 117 23) + (r_X12_number I L))) else (I_X12_here (I_X12_number I L) L)))))
set_option maxRecDepth 20000 in
theorem c_X12_readsItem (g : tq_G) (I : tq_I) (J : Int64) (L : Nat) (k : tr_tx I L) (k2 : tr_rs I) : CT g mX12_readsItem 2 0 0 [.ref 117] (tq_SC ++ tq_SR) tq_RR I J (tq_ret (tq_SC ++ tq_SR) tq_RR (some (.int (r_X12_readsItem I L))) (I_X12_readsItem I L) J) := by
  refine CT.ret kX12_readsItem (Nat.le_of_ble_eq_true rfl) (fun x0 C hR hZ => ?_)
  refine EV_en (lv' := [some (.ref 117), none, none, none, none]) 4 rfl ?_
  refine EV_blk (own := 12) C rfl [(.aload_n 0, 0, 0, 0, 0)] (pc' := 1) (by decide +kernel) (lv' := [some (.ref 117), none, none, none, none]) (st' := [.ref 117]) (I' := I) (J' := J) rfl ?_
  refine EV_cV (own := 12) (idx := 189) (μ' := mX12_number) (b := 117) (cb := 12) (av := []) (rest := []) C hR rfl (Or.inl ⟨1249, by decide⟩) kX12_number sX12_number (c_X12_number g I J L k) rfl rfl (by decide +kernel) rfl (by decide) (Nat.le_of_ble_eq_true rfl) rfl ⟨Nat.zero_le _, Nat.zero_le _⟩ ?_
  refine EV_blk (own := 12) C rfl [(.istore_n 1, 0, 0, 0, 0), (.aload_n 0, 0, 0, 0, 0)] (pc' := 6) (by decide +kernel) (lv' := [some (.ref 117), some (.int (r_X12_number I L)), none, none, none]) (st' := [.ref 117]) (I' := (I_X12_number I L)) (J' := J) rfl ?_
  refine EV_cV (own := 12) (idx := 185) (μ' := mX12_here) (b := 117) (cb := 12) (av := []) (rest := []) C hR rfl (Or.inl ⟨1253, by decide⟩) kX12_here sX12_here (c_X12_here g (I_X12_number I L) J L (tr_num k).2.1) rfl rfl (by decide +kernel) rfl (by decide) (Nat.le_of_ble_eq_true rfl) rfl ⟨Nat.zero_le _, Nat.zero_le _⟩ ?_
  refine EV_blk (own := 12) C rfl [(.istore_n 2, 0, 0, 0, 0), (.aload_n 0, 0, 0, 0, 0), (.getfield 192, 12, 22, 921, 0)] (pc' := 14) (by decide +kernel) (lv' := [some (.ref 117), some (.int (r_X12_number I L)), some (.int (r_X12_here (I_X12_number I L) L)), none, none]) (st' := [.int ((I_X12_here (I_X12_number I L) L) 117 22)]) (I' := (I_X12_here (I_X12_number I L) L)) (J' := J) rfl ?_
  refine EV_if_ne (off := 8) (tgt := 22) C (by decide +kernel) (by decide) (fun h1 => ?_) (fun h1 => ?_)
  · skip
    refine EV_blk (own := 12) C rfl [(.aload_n 0, 0, 0, 0, 0), (.getfield 195, 12, 21, 920, 0), (.istore_n 3, 0, 0, 0, 0), (.iload_n 1, 0, 0, 0, 0), (.iconst (-1), 0, 0, 0, (-1))] (pc' := 29) (by decide +kernel) (lv' := [some (.ref 117), some (.int (r_X12_number I L)), some (.int (r_X12_here (I_X12_number I L) L)), some (.int ((I_X12_here (I_X12_number I L) L) 117 21)), none]) (st' := [.int (-1), .int (r_X12_number I L)]) (I' := (I_X12_here (I_X12_number I L) L)) (J' := J) rfl ?_
    refine EV_icmp_eq (off := 24) (tgt := 53) C (by decide +kernel) (by decide) (fun h2 => ?_) (fun h2 => ?_)
    · skip
      refine EV_blk (own := 12) C rfl [(.iconst 0, 0, 0, 0, (nI 0))] (pc' := 54) (by decide +kernel) (lv' := [some (.ref 117), some (.int (r_X12_number I L)), some (.int (r_X12_here (I_X12_number I L) L)), some (.int ((I_X12_here (I_X12_number I L) L) 117 21)), none]) (st' := [.int (nI 0)]) (I' := (I_X12_here (I_X12_number I L) L)) (J' := J) rfl ?_
      exact EV_zret C hZ rfl (by decide) (by decide +kernel) (Nat.le_refl _) (Nat.le_refl _) ⟨tq_some (by simp only [r_X12_readsItem, if_neg h1, if_pos h2]), rfl, rfl, by simp only [I_X12_readsItem, if_neg h1, if_pos h2], rfl⟩
    · skip
      have hne : ¬ (r_X12_number I L) = (-1) := h2
      refine EV_blk (own := 12) C rfl [(.iload_n 2, 0, 0, 0, 0), (.bipush 97, 0, 0, 0, (nI 97)), (.bipush 102, 0, 0, 0, (nI 102))] (pc' := 37) (by decide +kernel) (lv' := [some (.ref 117), some (.int (r_X12_number I L)), some (.int (r_X12_here (I_X12_number I L) L)), some (.int ((I_X12_here (I_X12_number I L) L) 117 21)), none]) (st' := [.int (nI 102), .int (nI 97), .int (r_X12_here (I_X12_number I L) L)]) (I' := (I_X12_here (I_X12_number I L) L)) (J' := J) rfl ?_
      refine EV_cS (own := 12) (idx := 62) (μ' := mX12_in) (av := [.int (r_X12_here (I_X12_number I L) L), .int (nI 97), .int (nI 102)]) (rest := []) C hR rfl (Or.inl ⟨896, by decide⟩) kX12_in sX12_in (c_X12_in g (I_X12_here (I_X12_number I L) L) J (r_X12_here (I_X12_number I L) L) (nI 97) (nI 102) ) (by decide +kernel) rfl (by decide) (Nat.le_of_ble_eq_true rfl) rfl ⟨Nat.zero_le _, Nat.zero_le _⟩ ?_
      refine EV_if_eq (off := 13) (tgt := 53) C (by decide +kernel) (by decide) (fun h3 => ?_) (fun h3 => ?_)
      · skip
        refine EV_blk (own := 12) C rfl [(.iconst 0, 0, 0, 0, (nI 0))] (pc' := 54) (by decide +kernel) (lv' := [some (.ref 117), some (.int (r_X12_number I L)), some (.int (r_X12_here (I_X12_number I L) L)), some (.int ((I_X12_here (I_X12_number I L) L) 117 21)), none]) (st' := [.int (nI 0)]) (I' := (I_X12_here (I_X12_number I L) L)) (J' := J) rfl ?_
        exact EV_zret C hZ rfl (by decide) (by decide +kernel) (Nat.le_refl _) (Nat.le_refl _) ⟨tq_some (by simp only [r_X12_readsItem, if_neg h1, if_neg h2, if_pos h3]), rfl, rfl, by simp only [I_X12_readsItem, if_neg h1, if_neg h2, if_pos h3], rfl⟩
      · skip
        refine EV_blk (own := 12) C rfl [(.aload_n 0, 0, 0, 0, 0), (.getfield 198, 12, 23, 922, 0), (.iload_n 1, 0, 0, 0, 0), (.iadd, 0, 0, 0, 0), (.iload_n 3, 0, 0, 0, 0)] (pc' := 50) (by decide +kernel) (lv' := [some (.ref 117), some (.int (r_X12_number I L)), some (.int (r_X12_here (I_X12_number I L) L)), some (.int ((I_X12_here (I_X12_number I L) L) 117 21)), none]) (st' := [.int ((I_X12_here (I_X12_number I L) L) 117 21), .int (((I_X12_here (I_X12_number I L) L) 117 23) + (r_X12_number I L))]) (I' := (I_X12_here (I_X12_number I L) L)) (J' := J) rfl ?_
        refine EV_icmp_le (off := 5) (tgt := 55) C (by decide +kernel) (by decide) (fun h4 => ?_) (fun h4 => ?_)
        · skip
          refine EV_blk (own := 12) C rfl [(.aload_n 0, 0, 0, 0, 0), (.dup, 0, 0, 0, 0), (.getfield 182, 12, 19, 918, 0), (.iconst 1, 0, 0, 0, (nI 1)), (.iadd, 0, 0, 0, 0), (.putfield 182, 12, 19, 918, 0), (.iconst 0, 0, 0, 0, (nI 0)), (.istore 4, 0, 0, 0, 0)] (pc' := 68) (by decide +kernel) (lv' := [some (.ref 117), some (.int (r_X12_number I L)), some (.int (r_X12_here (I_X12_number I L) L)), some (.int ((I_X12_here (I_X12_number I L) L) 117 21)), some (.int (nI 0))]) (st' := []) (I' := (tq_u (I_X12_here (I_X12_number I L) L) 117 19 (((I_X12_here (I_X12_number I L) L) 117 19) + (nI 1)))) (J' := J) rfl ?_
          have hs23 : (I_X12_here (I_X12_number I L) L) 117 23 = I 117 23 := by rw [fs_here _ _ _ (by decide), fs_number _ _ _ (by decide)]
          have hs22 : (I_X12_here (I_X12_number I L) L) 117 22 = I 117 22 := by rw [fs_here _ _ _ (by decide), fs_number _ _ _ (by decide)]
          have hms : (((I_X12_here (I_X12_number I L) L) 117 21)).toInt ≤ 11 := by first | decide | (rw [fs_here _ _ _ (by decide), fs_number _ _ _ (by decide)]; exact k2.2.2.2)
          have hmm := (tr_num k).1.resolve_left hne
          have hle2 := h4
          rw [hs23] at hle2
          have hit := tr_itq (b := 0) k2.2.1 hmm _ hms hle2
          refine lp_mri1 C hR J (r_X12_number I L) (r_X12_here (I_X12_number I L) L) ((I_X12_here (I_X12_number I L) L) 117 21) (tq_N (I 117 22)) (tq_N (I 117 23)) (tq_N (r_X12_number I L)) (tq_nIN (by omega)) hit.1 (by have := k2.1; unfold tq_N; omega) (tq_N (r_X12_number I L)) 0 (tq_u (I_X12_here (I_X12_number I L) L) 117 19 (((I_X12_here (I_X12_number I L) L) 117 19) + (nI 1))) (by omega) ⟨by rw [tq_u_slot (by decide), hs22]; exact tq_nIN k2.1.1, by rw [tq_u_slot (by decide), hs23]; exact tq_nIN k2.2.1.1⟩ ?_
          refine EV_blk (own := 12) C rfl [(.aload_n 0, 0, 0, 0, 0), (.dup, 0, 0, 0, 0), (.getfield 198, 12, 23, 922, 0), (.iload_n 1, 0, 0, 0, 0), (.iadd, 0, 0, 0, 0), (.putfield 198, 12, 23, 922, 0), (.iconst 1, 0, 0, 0, (nI 1))] (pc' := 115) (by decide +kernel) (lv' := [some (.ref 117), some (.int (r_X12_number I L)), some (.int (r_X12_here (I_X12_number I L) L)), some (.int ((I_X12_here (I_X12_number I L) L) 117 21)), some (.int (nI ((0 + (tq_N (r_X12_number I L))))))]) (st' := [.int (nI 1)]) (I' := (tq_u (tq_it (f_mri1 (r_X12_number I L) (r_X12_here (I_X12_number I L) L) ((I_X12_here (I_X12_number I L) L) 117 21) (tq_N (I 117 22)) (tq_N (I 117 23)) (tq_N (r_X12_number I L))) (tq_N (r_X12_number I L)) 0 (tq_u (I_X12_here (I_X12_number I L) L) 117 19 (((I_X12_here (I_X12_number I L) L) 117 19) + (nI 1)))) 117 23 (((tq_it (f_mri1 (r_X12_number I L) (r_X12_here (I_X12_number I L) L) ((I_X12_here (I_X12_number I L) L) 117 21) (tq_N (I 117 22)) (tq_N (I 117 23)) (tq_N (r_X12_number I L))) (tq_N (r_X12_number I L)) 0 (tq_u (I_X12_here (I_X12_number I L) L) 117 19 (((I_X12_here (I_X12_number I L) L) 117 19) + (nI 1)))) 117 23) + (r_X12_number I L)))) (J' := J) rfl ?_
          exact EV_zret C hZ rfl (by decide) (by decide +kernel) (Nat.le_refl _) (Nat.le_refl _) ⟨tq_some (by simp only [r_X12_readsItem, if_neg h1, if_neg h2, if_neg h3, if_pos h4]), rfl, rfl, by simp only [I_X12_readsItem, if_neg h1, if_neg h2, if_neg h3, if_pos h4], rfl⟩
        · skip
          refine EV_blk (own := 12) C rfl [(.iconst 0, 0, 0, 0, (nI 0))] (pc' := 54) (by decide +kernel) (lv' := [some (.ref 117), some (.int (r_X12_number I L)), some (.int (r_X12_here (I_X12_number I L) L)), some (.int ((I_X12_here (I_X12_number I L) L) 117 21)), none]) (st' := [.int (nI 0)]) (I' := (I_X12_here (I_X12_number I L) L)) (J' := J) rfl ?_
          exact EV_zret C hZ rfl (by decide) (by decide +kernel) (Nat.le_refl _) (Nat.le_refl _) ⟨tq_some (by simp only [r_X12_readsItem, if_neg h1, if_neg h2, if_neg h3, if_neg h4]), rfl, rfl, by simp only [I_X12_readsItem, if_neg h1, if_neg h2, if_neg h3, if_neg h4], rfl⟩
  · skip
    refine EV_blk (own := 12) C rfl [(.bipush 11, 0, 0, 0, (nI 11)), (.goto 7, 0, 0, 0, 0), (.istore_n 3, 0, 0, 0, 0), (.iload_n 1, 0, 0, 0, 0), (.iconst (-1), 0, 0, 0, (-1))] (pc' := 29) (by decide +kernel) (lv' := [some (.ref 117), some (.int (r_X12_number I L)), some (.int (r_X12_here (I_X12_number I L) L)), some (.int (nI 11)), none]) (st' := [.int (-1), .int (r_X12_number I L)]) (I' := (I_X12_here (I_X12_number I L) L)) (J' := J) rfl ?_
    refine EV_icmp_eq (off := 24) (tgt := 53) C (by decide +kernel) (by decide) (fun h5 => ?_) (fun h5 => ?_)
    · skip
      refine EV_blk (own := 12) C rfl [(.iconst 0, 0, 0, 0, (nI 0))] (pc' := 54) (by decide +kernel) (lv' := [some (.ref 117), some (.int (r_X12_number I L)), some (.int (r_X12_here (I_X12_number I L) L)), some (.int (nI 11)), none]) (st' := [.int (nI 0)]) (I' := (I_X12_here (I_X12_number I L) L)) (J' := J) rfl ?_
      exact EV_zret C hZ rfl (by decide) (by decide +kernel) (Nat.le_refl _) (Nat.le_refl _) ⟨tq_some (by simp only [r_X12_readsItem, if_pos h1, if_pos h5]), rfl, rfl, by simp only [I_X12_readsItem, if_pos h1, if_pos h5], rfl⟩
    · skip
      have hne : ¬ (r_X12_number I L) = (-1) := h5
      refine EV_blk (own := 12) C rfl [(.iload_n 2, 0, 0, 0, 0), (.bipush 97, 0, 0, 0, (nI 97)), (.bipush 102, 0, 0, 0, (nI 102))] (pc' := 37) (by decide +kernel) (lv' := [some (.ref 117), some (.int (r_X12_number I L)), some (.int (r_X12_here (I_X12_number I L) L)), some (.int (nI 11)), none]) (st' := [.int (nI 102), .int (nI 97), .int (r_X12_here (I_X12_number I L) L)]) (I' := (I_X12_here (I_X12_number I L) L)) (J' := J) rfl ?_
      refine EV_cS (own := 12) (idx := 62) (μ' := mX12_in) (av := [.int (r_X12_here (I_X12_number I L) L), .int (nI 97), .int (nI 102)]) (rest := []) C hR rfl (Or.inl ⟨896, by decide⟩) kX12_in sX12_in (c_X12_in g (I_X12_here (I_X12_number I L) L) J (r_X12_here (I_X12_number I L) L) (nI 97) (nI 102) ) (by decide +kernel) rfl (by decide) (Nat.le_of_ble_eq_true rfl) rfl ⟨Nat.zero_le _, Nat.zero_le _⟩ ?_
      refine EV_if_eq (off := 13) (tgt := 53) C (by decide +kernel) (by decide) (fun h6 => ?_) (fun h6 => ?_)
      · skip
        refine EV_blk (own := 12) C rfl [(.iconst 0, 0, 0, 0, (nI 0))] (pc' := 54) (by decide +kernel) (lv' := [some (.ref 117), some (.int (r_X12_number I L)), some (.int (r_X12_here (I_X12_number I L) L)), some (.int (nI 11)), none]) (st' := [.int (nI 0)]) (I' := (I_X12_here (I_X12_number I L) L)) (J' := J) rfl ?_
        exact EV_zret C hZ rfl (by decide) (by decide +kernel) (Nat.le_refl _) (Nat.le_refl _) ⟨tq_some (by simp only [r_X12_readsItem, if_pos h1, if_neg h5, if_pos h6]), rfl, rfl, by simp only [I_X12_readsItem, if_pos h1, if_neg h5, if_pos h6], rfl⟩
      · skip
        refine EV_blk (own := 12) C rfl [(.aload_n 0, 0, 0, 0, 0), (.getfield 198, 12, 23, 922, 0), (.iload_n 1, 0, 0, 0, 0), (.iadd, 0, 0, 0, 0), (.iload_n 3, 0, 0, 0, 0)] (pc' := 50) (by decide +kernel) (lv' := [some (.ref 117), some (.int (r_X12_number I L)), some (.int (r_X12_here (I_X12_number I L) L)), some (.int (nI 11)), none]) (st' := [.int (nI 11), .int (((I_X12_here (I_X12_number I L) L) 117 23) + (r_X12_number I L))]) (I' := (I_X12_here (I_X12_number I L) L)) (J' := J) rfl ?_
        refine EV_icmp_le (off := 5) (tgt := 55) C (by decide +kernel) (by decide) (fun h7 => ?_) (fun h7 => ?_)
        · skip
          refine EV_blk (own := 12) C rfl [(.aload_n 0, 0, 0, 0, 0), (.dup, 0, 0, 0, 0), (.getfield 182, 12, 19, 918, 0), (.iconst 1, 0, 0, 0, (nI 1)), (.iadd, 0, 0, 0, 0), (.putfield 182, 12, 19, 918, 0), (.iconst 0, 0, 0, 0, (nI 0)), (.istore 4, 0, 0, 0, 0)] (pc' := 68) (by decide +kernel) (lv' := [some (.ref 117), some (.int (r_X12_number I L)), some (.int (r_X12_here (I_X12_number I L) L)), some (.int (nI 11)), some (.int (nI 0))]) (st' := []) (I' := (tq_u (I_X12_here (I_X12_number I L) L) 117 19 (((I_X12_here (I_X12_number I L) L) 117 19) + (nI 1)))) (J' := J) rfl ?_
          have hs23 : (I_X12_here (I_X12_number I L) L) 117 23 = I 117 23 := by rw [fs_here _ _ _ (by decide), fs_number _ _ _ (by decide)]
          have hs22 : (I_X12_here (I_X12_number I L) L) 117 22 = I 117 22 := by rw [fs_here _ _ _ (by decide), fs_number _ _ _ (by decide)]
          have hms : ((nI 11)).toInt ≤ 11 := by first | decide | (rw [fs_here _ _ _ (by decide), fs_number _ _ _ (by decide)]; exact k2.2.2.2)
          have hmm := (tr_num k).1.resolve_left hne
          have hle2 := h7
          rw [hs23] at hle2
          have hit := tr_itq (b := 0) k2.2.1 hmm _ hms hle2
          refine lp_mri1 C hR J (r_X12_number I L) (r_X12_here (I_X12_number I L) L) (nI 11) (tq_N (I 117 22)) (tq_N (I 117 23)) (tq_N (r_X12_number I L)) (tq_nIN (by omega)) hit.1 (by have := k2.1; unfold tq_N; omega) (tq_N (r_X12_number I L)) 0 (tq_u (I_X12_here (I_X12_number I L) L) 117 19 (((I_X12_here (I_X12_number I L) L) 117 19) + (nI 1))) (by omega) ⟨by rw [tq_u_slot (by decide), hs22]; exact tq_nIN k2.1.1, by rw [tq_u_slot (by decide), hs23]; exact tq_nIN k2.2.1.1⟩ ?_
          refine EV_blk (own := 12) C rfl [(.aload_n 0, 0, 0, 0, 0), (.dup, 0, 0, 0, 0), (.getfield 198, 12, 23, 922, 0), (.iload_n 1, 0, 0, 0, 0), (.iadd, 0, 0, 0, 0), (.putfield 198, 12, 23, 922, 0), (.iconst 1, 0, 0, 0, (nI 1))] (pc' := 115) (by decide +kernel) (lv' := [some (.ref 117), some (.int (r_X12_number I L)), some (.int (r_X12_here (I_X12_number I L) L)), some (.int (nI 11)), some (.int (nI ((0 + (tq_N (r_X12_number I L))))))]) (st' := [.int (nI 1)]) (I' := (tq_u (tq_it (f_mri1 (r_X12_number I L) (r_X12_here (I_X12_number I L) L) (nI 11) (tq_N (I 117 22)) (tq_N (I 117 23)) (tq_N (r_X12_number I L))) (tq_N (r_X12_number I L)) 0 (tq_u (I_X12_here (I_X12_number I L) L) 117 19 (((I_X12_here (I_X12_number I L) L) 117 19) + (nI 1)))) 117 23 (((tq_it (f_mri1 (r_X12_number I L) (r_X12_here (I_X12_number I L) L) (nI 11) (tq_N (I 117 22)) (tq_N (I 117 23)) (tq_N (r_X12_number I L))) (tq_N (r_X12_number I L)) 0 (tq_u (I_X12_here (I_X12_number I L) L) 117 19 (((I_X12_here (I_X12_number I L) L) 117 19) + (nI 1)))) 117 23) + (r_X12_number I L)))) (J' := J) rfl ?_
          exact EV_zret C hZ rfl (by decide) (by decide +kernel) (Nat.le_refl _) (Nat.le_refl _) ⟨tq_some (by simp only [r_X12_readsItem, if_pos h1, if_neg h5, if_neg h6, if_pos h7]), rfl, rfl, by simp only [I_X12_readsItem, if_pos h1, if_neg h5, if_neg h6, if_pos h7], rfl⟩
        · skip
          refine EV_blk (own := 12) C rfl [(.iconst 0, 0, 0, 0, (nI 0))] (pc' := 54) (by decide +kernel) (lv' := [some (.ref 117), some (.int (r_X12_number I L)), some (.int (r_X12_here (I_X12_number I L) L)), some (.int (nI 11)), none]) (st' := [.int (nI 0)]) (I' := (I_X12_here (I_X12_number I L) L)) (J' := J) rfl ?_
          exact EV_zret C hZ rfl (by decide) (by decide +kernel) (Nat.le_refl _) (Nat.le_refl _) ⟨tq_some (by simp only [r_X12_readsItem, if_pos h1, if_neg h5, if_neg h6, if_neg h7]), rfl, rfl, by simp only [I_X12_readsItem, if_pos h1, if_neg h5, if_neg h6, if_neg h7], rfl⟩
theorem fr_X12_readsItem (I : tq_I) (L : Nat) {cz : Nat} (hc : cz ≠ 117 ∧ cz ≠ 130) (jz : Nat) : I_X12_readsItem I L cz jz = I cz jz := by
  obtain ⟨hc0, hc1⟩ := hc
  simp only [I_X12_readsItem]
  (repeat' split) <;> simp (disch := first | assumption | (simp only [ne_eq] at *; simp [*])) [tq_u, tq_cp, hc0, hc1, fr_X12_touches, fr_ta1, fr_X12_touchesAll, fr_cps1, fr_X12_copies, fr_sav, fr_bg1, fr_bg2, fr_X12_begins, fr_ly1, fr_X12_lays, fr_bgn1, fr_X12_begin, fr_X12_setCorner, fr_fi1, fr_X12_fill, fr_fg1, fr_X12_forgets, fr_rc1, fr_rc2, fr_X12_reaches, fr_mfl1, fr_X12_flood, fr_mrg1, fr_X12_regions, fr_mra1, fr_X12_raise, fr_sp1, fr_X12_setPath, fr_sr1, fr_sr2, fr_X12_setRank, fr_X12_becomes, fr_X12_setTiles, fr_X12_setVariants, fr_X12_setSeed, fr_X12_setBorder, fr_X12_makesUp, fr_X12_finds, fr_X12_parts, fr_put, fr_mfy2, fr_X12_findsLayers, fr_mfp1, fr_mfp2, fr_X12_findsPieces, fr_X12_layers, fr_X12_layer, fr_X12_pieces, fr_X12_piece, fr_X12_isStaleAt, fr_mpa1, fr_X12_paints, fr_X12_isStale, fr_mst2, fr_X12_stale, fr_mpt1, fr_X12_paint, fr_X12_paintCell, fr_mfk2, fr_mfk3, fr_X12_findsKinds, fr_X12_kinds, fr_X12_kind, fr_X12_undo, fr_X12_here, fr_X12_type, fr_X12_clearText, fr_X12_number, fr_mri1]
theorem fs_ri1 {m lt ms : Int32} {ro nw q : Nat} (n i : Nat) (a : tq_I) (j : Nat) : tq_it (f_mri1 m lt ms ro nw q) n i a 117 j = a 117 j := fr_mri1 _ _ _ _ _ _ (by decide) n i a j
/-- an item read: where it stands, and the counters -/
theorem tr_item {I : tq_I} {L : Nat} (k : tr_tx I L) (k2 : tr_rs I) : (r_X12_readsItem I L = 0 ∨ r_X12_readsItem I L = 1) ∧ tr_tx (I_X12_readsItem I L) L ∧ tr_rs (I_X12_readsItem I L) ∧ (∀ j, j ≠ 19 → j ≠ 23 → I_X12_readsItem I L 117 j = I 117 j) ∧ (¬ r_X12_readsItem I L = 0 → tq_N (I 117 19) + 1 ≤ tq_N (I_X12_readsItem I L 117 19)) := by
  have hn := tr_num k
  have k1 := hn.2.1
  have kh := k1.here
  have hL := k.2.1
  have e97 : (nI 97).toInt = 97 := by decide
  have hsk := tr_skI_le k1
  have hsm : ∀ j, j ≠ 19 → I_X12_here (I_X12_number I L) L 117 j = I 117 j := fun j hj => by rw [fs_here _ _ _ hj, fs_number _ _ _ hj]
  have fail : tr_tx (I_X12_here (I_X12_number I L) L) L ∧ tr_rs (I_X12_here (I_X12_number I L) L) := ⟨kh, k2.cong (hsm _ (by decide)) (hsm _ (by decide)) (hsm _ (by decide))⟩
  have ok : ∀ (ms : Int32), ms.toInt ≤ 11 → ¬ r_X12_number I L = (-1) → ¬ tq_b ((nI 97).toInt ≤ (r_X12_here (I_X12_number I L) L).toInt ∧ (r_X12_here (I_X12_number I L) L).toInt ≤ (nI 102).toInt) = 0 → I_X12_here (I_X12_number I L) L 117 23 + r_X12_number I L ≤ ms → ∀ K : tq_I, (∀ j, K 117 j = tq_u (I_X12_here (I_X12_number I L) L) 117 19 (I_X12_here (I_X12_number I L) L 117 19 + nI 1) 117 j) → tr_tx (tq_u K 117 23 (K 117 23 + r_X12_number I L)) L ∧ tr_rs (tq_u K 117 23 (K 117 23 + r_X12_number I L)) ∧ (∀ j, j ≠ 19 → j ≠ 23 → tq_u K 117 23 (K 117 23 + r_X12_number I L) 117 j = I 117 j) ∧ (¬ nI 1 = 0 → tq_N (I 117 19) + 1 ≤ tq_N (tq_u K 117 23 (K 117 23 + r_X12_number I L) 117 19)) := by
    intro ms hms hne hlt hle K hK
    have h23 : K 117 23 = I 117 23 := by rw [hK, tq_u_slot (by decide), hsm _ (by decide)]
    rw [hsm _ (by decide)] at hle
    have hit := tr_itq (b := 0) k2.2.1 (hn.1.resolve_left hne) ms hms hle
    have hv := tr_hereV k1
    have hlt2 : tr_skI (I_X12_number I L) L < L := by
      have h0 := (tq_b10 hlt).1
      rw [hv] at h0
      by_cases c : L ≤ tr_skI (I_X12_number I L) L
      · rw [if_pos c] at h0
        exact absurd h0 (by decide)
      · omega
    have h19 : K 117 19 = nI (tr_skI (I_X12_number I L) L + 1) := by rw [hK, tq_u_same, tr_hereP, nI_add]
    have hoth : ∀ j, j ≠ 19 → j ≠ 23 → tq_u K 117 23 (K 117 23 + r_X12_number I L) 117 j = I 117 j := fun j h1 h2 => by rw [tq_u_slot h2, hK, tq_u_slot h1, hsm j h1]
    refine ⟨⟨?_, hL, ?_⟩, ?_, hoth, fun _ => ?_⟩
    · rw [hoth 3 (by decide) (by decide)]; exact k.1
    · rw [tq_u_slot (by decide), h19, nI_toInt (by omega)]; omega
    · refine ⟨?_, ?_, ?_⟩
      · rw [hoth 22 (by decide) (by decide)]; exact k2.1
      · rw [tq_u_same, h23, hit.2, nI_toInt (by omega)]; omega
      · rw [hoth 21 (by decide) (by decide)]; exact k2.2.2
    · rw [tq_u_slot (by decide), h19, tq_N_nI (by omega)]
      have := hn.2.2
      omega
  unfold r_X12_readsItem I_X12_readsItem
  have f0 : ∀ j, j ≠ 19 → j ≠ 23 → I_X12_here (I_X12_number I L) L 117 j = I 117 j := fun j h1 _ => hsm j h1
  have h21 : (I_X12_here (I_X12_number I L) L 117 21).toInt ≤ 11 := by rw [hsm _ (by decide)]; exact k2.2.2.2
  split
  · split
    · exact ⟨Or.inl rfl, fail.1, fail.2, f0, fun q => absurd rfl q⟩
    · split
      · exact ⟨Or.inl rfl, fail.1, fail.2, f0, fun q => absurd rfl q⟩
      · split
        · rename_i c1 c2 c3 c4
          exact ⟨Or.inr rfl, ok (nI 11) (by decide) c2 c3 c4 _ (fun j => fs_ri1 _ _ _ j)⟩
        · exact ⟨Or.inl rfl, fail.1, fail.2, f0, fun q => absurd rfl q⟩
  · split
    · exact ⟨Or.inl rfl, fail.1, fail.2, f0, fun q => absurd rfl q⟩
    · split
      · exact ⟨Or.inl rfl, fail.1, fail.2, f0, fun q => absurd rfl q⟩
      · split
        · rename_i c1 c2 c3 c4
          exact ⟨Or.inr rfl, ok _ h21 c2 c3 c4 _ (fun j => fs_ri1 _ _ _ j)⟩
        · exact ⟨Or.inl rfl, fail.1, fail.2, f0, fun q => absurd rfl q⟩
theorem tr_rs.here {I : tq_I} {L : Nat} (k : tr_rs I) : tr_rs (I_X12_here I L) := k.cong (fs_here _ _ _ (by decide)) (fs_here _ _ _ (by decide)) (fs_here _ _ _ (by decide))
theorem tr_rrr {a : tq_I} {L n : Nat} (k : tr_tx a L) (k2 : tr_rs a) (h : L + 1 ≤ n + 1 + tq_N (a 117 19)) : r_X12_readsItem (I_X12_here (I_X12_here a L) L) L = 0 ∨ L + 1 ≤ n + tq_N (I_X12_readsItem (I_X12_here (I_X12_here a L) L) L 117 19) := by
  by_cases c : r_X12_readsItem (I_X12_here (I_X12_here a L) L) L = 0
  · exact Or.inl c
  · right
    have h1 := (tr_item k.here.here k2.here.here).2.2.2.2 c
    have hL := k.2.1
    have h2 := tr_skI_le k
    have h3 := tr_skI_le k.here
    have e1 : tq_N (I_X12_here a L 117 19) = tr_skI a L := by rw [tr_hereP, tq_N_nI (by omega)]
    have e2 : tq_N (I_X12_here (I_X12_here a L) L 117 19) = tr_skI (I_X12_here a L) L := by rw [tr_hereP, tq_N_nI (by omega)]
    omega
def f_mrr1 (L : Nat) (a : Int32 × tq_I) : (Int32 × tq_I) ⊕ (Int32 × tq_I) := (if a.1 = 0 then (.inr (a.1, a.2)) else (if (r_X12_here a.2 L) = (nI 47) then (.inr (a.1, (I_X12_here a.2 L))) else (if (r_X12_here (I_X12_here a.2 L) L) = (-1) then (.inr (a.1, (I_X12_here (I_X12_here a.2 L) L))) else (.inl ((r_X12_readsItem (I_X12_here (I_X12_here a.2 L) L) L), (I_X12_readsItem (I_X12_here (I_X12_here a.2 L) L) L))))))
set_option maxRecDepth 20000 in
theorem lp_mrr1 {g : tq_G} {x0 : tq_X} (C : tq_C g mX12_readsRow x0) (hR : tq_ht x0 3 0 0) (J : Int64) (L : Nat)  : ∀ (n : Nat) (a : Int32 × tq_I), (a.1 = 0 ∨ L + 1 ≤ n + tq_N (a.2 117 19)) → (tr_tx a.2 L ∧ tr_rs a.2) → EV g mX12_readsRow x0 0 0 39 [some (.ref 117), some (.int ((tq_wx (f_mrr1 L) n a).1)), none, none] [] (tq_SC ++ tq_SR) tq_RR ((tq_wx (f_mrr1 L) n a).2) J → EV g mX12_readsRow x0 0 0 10 [some (.ref 117), some (.int a.1), none, none] [] (tq_SC ++ tq_SR) tq_RR a.2 J := by
  intro n
  induction n with
  | zero =>
    intro a hi hI kk
    rw [show tq_wx _ 0 a = a from rfl] at kk
    refine EV_blk (own := 12) C rfl [(.iload_n 1, 0, 0, 0, 0)] (pc' := 11) (by decide +kernel) (lv' := [some (.ref 117), some (.int a.1), none, none]) (st' := [.int a.1]) (I' := a.2) (J' := J) rfl ?_
    refine EV_if_eq (off := 28) (tgt := 39) C (by decide +kernel) (by decide) (fun hon => ?_) (fun hon => ?_)
    · skip
      exact kk
    · skip
      exact absurd (hi.resolve_left hon) (by have := hI.1.p.2; omega)
  | succ n ih =>
    intro a hi hI kk
    refine EV_blk (own := 12) C rfl [(.iload_n 1, 0, 0, 0, 0)] (pc' := 11) (by decide +kernel) (lv' := [some (.ref 117), some (.int a.1), none, none]) (st' := [.int a.1]) (I' := a.2) (J' := J) rfl ?_
    refine EV_if_eq (off := 28) (tgt := 39) C (by decide +kernel) (by decide) (fun hon => ?_) (fun hon => ?_)
    · skip
      rw [tq_wx_x (show (f_mrr1 L) a = .inr (a.1, a.2) from by simp only [f_mrr1, if_pos hon])] at kk
      exact kk
    · skip
      refine EV_blk (own := 12) C rfl [(.aload_n 0, 0, 0, 0, 0)] (pc' := 15) (by decide +kernel) (lv' := [some (.ref 117), some (.int a.1), none, none]) (st' := [.ref 117]) (I' := a.2) (J' := J) rfl ?_
      refine EV_cV (own := 12) (idx := 185) (μ' := mX12_here) (b := 117) (cb := 12) (av := []) (rest := []) C hR rfl (Or.inl ⟨1253, by decide⟩) kX12_here sX12_here (c_X12_here g a.2 J L hI.1) rfl rfl (by decide +kernel) rfl (by decide) (Nat.le_of_ble_eq_true rfl) rfl ⟨Nat.zero_le _, Nat.zero_le _⟩ ?_
      refine EV_blk (own := 12) C rfl [(.bipush 47, 0, 0, 0, (nI 47))] (pc' := 20) (by decide +kernel) (lv' := [some (.ref 117), some (.int a.1), none, none]) (st' := [.int (nI 47), .int (r_X12_here a.2 L)]) (I' := (I_X12_here a.2 L)) (J' := J) rfl ?_
      refine EV_icmp_eq (off := 19) (tgt := 39) C (by decide +kernel) (by decide) (fun h1 => ?_) (fun h1 => ?_)
      · skip
        rw [tq_wx_x (show (f_mrr1 L) a = .inr (a.1, (I_X12_here a.2 L)) from by simp only [f_mrr1, if_neg hon, if_pos h1])] at kk
        exact kk
      · skip
        refine EV_blk (own := 12) C rfl [(.aload_n 0, 0, 0, 0, 0)] (pc' := 24) (by decide +kernel) (lv' := [some (.ref 117), some (.int a.1), none, none]) (st' := [.ref 117]) (I' := (I_X12_here a.2 L)) (J' := J) rfl ?_
        refine EV_cV (own := 12) (idx := 185) (μ' := mX12_here) (b := 117) (cb := 12) (av := []) (rest := []) C hR rfl (Or.inl ⟨1253, by decide⟩) kX12_here sX12_here (c_X12_here g (I_X12_here a.2 L) J L hI.1.here) rfl rfl (by decide +kernel) rfl (by decide) (Nat.le_of_ble_eq_true rfl) rfl ⟨Nat.zero_le _, Nat.zero_le _⟩ ?_
        refine EV_blk (own := 12) C rfl [(.iconst (-1), 0, 0, 0, (-1))] (pc' := 28) (by decide +kernel) (lv' := [some (.ref 117), some (.int a.1), none, none]) (st' := [.int (-1), .int (r_X12_here (I_X12_here a.2 L) L)]) (I' := (I_X12_here (I_X12_here a.2 L) L)) (J' := J) rfl ?_
        refine EV_icmp_eq (off := 11) (tgt := 39) C (by decide +kernel) (by decide) (fun h2 => ?_) (fun h2 => ?_)
        · skip
          rw [tq_wx_x (show (f_mrr1 L) a = .inr (a.1, (I_X12_here (I_X12_here a.2 L) L)) from by simp only [f_mrr1, if_neg hon, if_neg h1, if_pos h2])] at kk
          exact kk
        · skip
          refine EV_blk (own := 12) C rfl [(.aload_n 0, 0, 0, 0, 0)] (pc' := 32) (by decide +kernel) (lv' := [some (.ref 117), some (.int a.1), none, none]) (st' := [.ref 117]) (I' := (I_X12_here (I_X12_here a.2 L) L)) (J' := J) rfl ?_
          refine EV_cV (own := 12) (idx := 201) (μ' := mX12_readsItem) (b := 117) (cb := 12) (av := []) (rest := []) C hR rfl (Or.inl ⟨1245, by decide⟩) kX12_readsItem sX12_readsItem (c_X12_readsItem g (I_X12_here (I_X12_here a.2 L) L) J L hI.1.here.here hI.2.here.here) rfl rfl (by decide +kernel) rfl (by decide) (Nat.le_of_ble_eq_true rfl) rfl ⟨Nat.zero_le _, Nat.zero_le _⟩ ?_
          refine EV_blk (own := 12) C rfl [(.istore_n 1, 0, 0, 0, 0), (.goto (-26), 0, 0, 0, 0)] (pc' := 10) (by decide +kernel) (lv' := [some (.ref 117), some (.int (r_X12_readsItem (I_X12_here (I_X12_here a.2 L) L) L)), none, none]) (st' := []) (I' := (I_X12_readsItem (I_X12_here (I_X12_here a.2 L) L) L)) (J' := J) rfl ?_
          rw [tq_wx_c (show (f_mrr1 L) a = .inl ((r_X12_readsItem (I_X12_here (I_X12_here a.2 L) L) L), (I_X12_readsItem (I_X12_here (I_X12_here a.2 L) L) L)) from by simp only [f_mrr1, if_neg hon, if_neg h1, if_neg h2])] at kk
          have ihx := ih ((r_X12_readsItem (I_X12_here (I_X12_here a.2 L) L) L), (I_X12_readsItem (I_X12_here (I_X12_here a.2 L) L) L))
          dsimp only at ihx
          exact ihx (tr_rrr hI.1 hI.2 (hi.resolve_left hon)) ⟨(tr_item hI.1.here.here hI.2.here.here).2.1, (tr_item hI.1.here.here hI.2.here.here).2.2.1⟩ kk
