/-! History, TerrainTiler, the reference: constructors -/
theorem tx_K.up {b N f f' : Nat} {R0 R : tq_R} {I0 TI I : tq_I} (K : tx_K b N f R0 I0 TI R I) (hf : f ≤ f') (h : ∀ i, i < f' → f ≤ i → tq_RR b i = none) : tx_K b N f' R0 I0 TI R I := by
  obtain ⟨k1, k2, k3, k4⟩ := K
  refine ⟨k1, fun j => ?_, k3, k4⟩
  rw [k2]
  by_cases c1 : j < f
  · rw [if_pos c1, if_pos (by omega)]
  · rw [if_neg c1]
    by_cases c2 : j < f'
    · rw [if_pos c2, h j c2 (by omega)]
    · rw [if_neg c2]
def tx_HK (i : Nat) (R0 : tq_R) (I0 : tq_I) (R : tq_R) (I : tq_I) : Prop := (∀ a j, a < 17 → R a j = R0 a j ∧ I a j = I0 a j) ∧ (∀ j, R 17 j = tq_RR 17 j) ∧ (∀ j, I 17 j = 0 ∧ I 18 j = 0) ∧ (∀ j, R 18 j = if j < i then tq_RR 18 j else none) ∧ ∀ a j, 19 ≤ a → a < 19 + 16 * i → R a j = tq_RR a j ∧ I a j = tx_I0 a j
set_option maxRecDepth 20000 in
theorem EV_h1 {g : tq_G} {x0 : tq_X} (C : tq_C g mX2_init x0) {mc0 ms0 k n i : Nat} (hR : tq_ht x0 4 mc0 ms0) {R0 R : tq_R} {I0 I : tq_I} (hi : i < 5) (K : tx_HK i R0 I0 R I) (h1 : k + 1 + 15 ≤ mc0) (h2 : n + tq_nf 8 + 1357 ≤ ms0) (kk : ∀ R' I', tx_HK (i + 1) R0 I0 R' I' → EV g mX2_init x0 (k + 1 + 15) (n + tq_nf 8 + 1357) 14 [some (.ref 17), some (.int (nI (i + 1)))] [] (tx_A.take (19 + 16 * (i + 1))) R' I' 0) : EV g mX2_init x0 k n 14 [some (.ref 17), some (.int (nI i))] [] (tx_A.take (19 + 16 * i)) R I 0 := by
  obtain ⟨k1, k2, k3, k4, k5⟩ := K
  have s17 : ∀ N, 19 ≤ N → (tx_A.take N)[17]? = some (.inl 2) := fun N hN => tx_get (by omega) (by decide +kernel)
  have s18 : ∀ N, 19 ≤ N → (tx_A.take N)[18]? = some (.inr (2, 5)) := fun N hN => tx_get (by omega) (by decide +kernel)
  have sN : tx_A[19 + 16 * i]? = some (.inl 8) := (show ∀ i, i < 5 → tx_A[19 + 16 * i]? = some (.inl 8) by decide +kernel) i hi
  have mem : 19 + 16 * i ∈ [1, 19, 35, 51, 67, 83] := (show ∀ i, i < 5 → 19 + 16 * i ∈ [1, 19, 35, 51, 67, 83] by decide) i hi
  have rr : tq_RR 18 i = some (19 + 16 * i) := (show ∀ i, i < 5 → tq_RR 18 i = some (19 + 16 * i) by decide +kernel) i hi
  refine EV_blk (own := 2) C rfl [(.iload_n 1, 0, 0, 0, 0), (.iconst 5, 0, 0, 0, (nI 5))] (pc' := 16) (by decide +kernel) (lv' := [some (.ref 17), some (.int (nI i))]) (st' := [.int (nI 5), .int (nI i)]) (I' := I) (J' := 0) rfl ?_
  refine EV_icmp_ge (off := 22) (tgt := 38) C (by decide +kernel) (by decide) (fun g1 => ?_) (fun g1 => ?_)
  · have := (nI_leI (by omega) (by omega)).mp g1
    omega
  · refine EV_blk (own := 2) C rfl [(.aload_n 0, 0, 0, 0, 0)] (pc' := 20) (by decide +kernel) (lv' := [some (.ref 17), some (.int (nI i))]) (st' := [.ref 17]) (I' := I) (J' := 0) rfl ?_
    refine EV_getr (own := 2) (idx := 11) (c := 2) (j := 0) (pl := 216) C rfl (by decide) (by decide +kernel) (s17 _ (by omega)) (Or.inl ⟨_, rfl⟩) (show R 17 0 = some 18 by rw [k2]; decide +kernel) ?_
    refine EV_blk (own := 2) C rfl [(.iload_n 1, 0, 0, 0, 0)] (pc' := 24) (by decide +kernel) (lv' := [some (.ref 17), some (.int (nI i))]) (st' := [.int (nI i), .ref 18]) (I' := I) (J' := 0) rfl ?_
    refine EV_new (own := 2) (idx := 9) (c := 8) (pl := 213) C hR rfl (by decide) (by decide) rfl (by rw [tx_len (by omega)]; omega) (by decide +kernel) (by omega) (by omega) ?_
    rw [tx_len (by omega), tx_snoc sN]
    refine EV_dup0 C (by decide +kernel) ?_
    refine EV_callI (own := 2) (idx := 15) (μ' := mX8_init) (rest := [.ref (19 + 16 * i), .int (nI i), .ref 18]) (av := []) (b := 19 + 16 * i) C hR rfl (Or.inr ⟨215, by decide⟩) kX8_init sX8_init rfl (c_X8_init g _ _ (19 + 16 * i) mem (fun j => by simp [tq_zR, tq_z])) (by decide +kernel) rfl (by decide) (Nat.le_of_ble_eq_true rfl) ⟨h1, h2⟩ rfl ?_
    rintro r sh' R' I' J' ⟨rfl, rfl, rfl, q4, q5⟩
    refine EV_aast (a := 18) (m := 5) (j := i) (b := 19 + 16 * i) C (by decide +kernel) (s18 _ (by omega)) (tx_get (by omega) sN) (nI_toInt (by omega)) (by omega) ?_
    refine EV_blk (own := 2) C rfl [(.iinc 1 1, 0, 0, 0, (nI 1)), (.goto (-21), 0, 0, 0, 0)] (pc' := 14) (by decide +kernel) (lv' := [some (.ref 17), some (.int ((nI i) + (nI 1)))]) (st' := []) (I' := I') (J' := 0) rfl ?_
    rw [nI_add, show 19 + 16 * i + 16 = 19 + 16 * (i + 1) by omega]
    have uo : ∀ a j, a ≠ 18 → tq_uR R' 18 i (some (19 + 16 * i)) a j = R' a j := fun a j ha => by unfold tq_uR; rw [if_neg (fun z => ha z.1)]
    have zo : ∀ a j, a < 19 + 16 * i → R' a j = R a j ∧ I' a j = I a j := fun a j ha => by
      have hne : a ≠ 19 + 16 * i := by omega
      have := q4 a j ha
      rw [this.1, this.2]
      simp [tq_zR, tq_z, hne]
    refine kk _ _ ⟨fun a j ha => ?_, fun j => ?_, fun j => ?_, fun j => ?_, fun a j ha ha2 => ?_⟩
    · rw [uo a j (by omega), (zo a j (by omega)).1, (zo a j (by omega)).2]; exact k1 a j ha
    · rw [uo 17 j (by decide), (zo 17 j (by omega)).1]; exact k2 j
    · rw [(zo 17 j (by omega)).2, (zo 18 j (by omega)).2]; exact k3 j
    · by_cases e : j = i
      · rw [e, if_pos (by omega), rr]
        unfold tq_uR
        rw [if_pos ⟨rfl, rfl⟩]
      · have : tq_uR R' 18 i (some (19 + 16 * i)) 18 j = R' 18 j := by unfold tq_uR; rw [if_neg (fun z => e z.2)]
        rw [this, (zo 18 j (by omega)).1, k4]
        exact tw_if (by omega)
    · rw [uo a j (by omega)]
      by_cases c : a < 19 + 16 * i
      · rw [(zo a j c).1, (zo a j c).2]; exact k5 a j ha c
      · exact q5 a j (by omega) (by omega)
set_option maxRecDepth 20000 in
theorem c_X2_init (g : tq_G) (R : tq_R) (I : tq_I) (h0 : ∀ j, R 17 j = none ∧ I 17 j = 0) : CT g mX2_init 4 81 6805 [.ref 17] (tx_A.take 18) R I 0 (tx_Q 17 99 R I tx_I0) := by
  refine CT.of kX2_init (Nat.le_of_ble_eq_true rfl) (fun x0 C hR0 hZ => ?_)
  have hR := tq_ht.of hR0
  refine EV_en (lv' := [some (.ref 17), none]) 1 rfl ?_
  refine EV_blk (own := 2) C rfl [(.aload_n 0, 0, 0, 0, 0)] (pc' := 1) (by decide +kernel) (lv' := [some (.ref 17), none]) (st' := [.ref 17]) (I' := I) (J' := 0) rfl ?_
  refine EV_obj (own := 2) (idx := 1) (pl := 212) C hR rfl (by decide) (by decide +kernel) (by decide) (by decide) ?_
  refine EV_blk (own := 2) C rfl [(.aload_n 0, 0, 0, 0, 0), (.iconst 5, 0, 0, 0, (nI 5))] (pc' := 6) (by decide +kernel) (lv' := [some (.ref 17), none]) (st' := [.int (nI 5), .ref 17]) (I' := I) (J' := 0) rfl ?_
  refine EV_newr (own := 2) (idx := 9) (pl := 213) (m := 5) C hR rfl (by decide) (by decide) (by decide) (by rw [tx_len (by decide)]; decide) (by decide +kernel) (by decide) (by decide) ?_
  rw [tx_len (by decide), tx_snoc (n := 18) (s := .inr (2, 5)) (by decide +kernel)]
  refine EV_putr (own := 2) (idx := 11) (c := 2) (j := 0) (pl := 216) C rfl (by decide) (by decide +kernel) (tx_get (by decide) (by decide +kernel)) (Or.inr ⟨rfl, rfl⟩) (Or.inl ⟨_, rfl⟩) ?_
  refine EV_blk (own := 2) C rfl [(.iconst 0, 0, 0, 0, (nI 0)), (.istore_n 1, 0, 0, 0, 0)] (pc' := 14) (by decide +kernel) (lv' := [some (.ref 17), some (.int (nI 0))]) (st' := []) (I' := tq_z I 18) (J' := 0) rfl ?_
  have K0 : tx_HK 0 R I (tq_uR (tq_zR R 18) 17 0 (some 18)) (tq_z I 18) := by
    refine ⟨fun a j ha => ?_, fun j => ?_, fun j => ⟨?_, by simp [tq_z]⟩, fun j => ?_, fun a j h1 h2 => by omega⟩
    · have h1 : a ≠ 17 := by omega
      have h2 : a ≠ 18 := by omega
      simp [tq_uR, tq_zR, tq_z, h1, h2]
    · by_cases e : j = 0
      · subst e
        rw [show tq_RR 17 0 = some 18 by decide +kernel]
        simp [tq_uR]
      · rw [tx_end (f := 1) (by decide +kernel) j (by omega)]
        simp [tq_uR, tq_zR, e, (h0 j).1]
    · have := (h0 j).2
      simp [tq_z, this]
    · rw [if_neg (Nat.not_lt_zero j)]
      simp [tq_uR, tq_zR]
  refine EV_h1 (i := 0) C hR (by decide) K0 (by decide) (by decide) (fun R1 I1 K1 => ?_)
  refine EV_h1 (i := 1) C hR (by decide) K1 (by decide) (by decide) (fun R2 I2 K2 => ?_)
  refine EV_h1 (i := 2) C hR (by decide) K2 (by decide) (by decide) (fun R3 I3 K3 => ?_)
  refine EV_h1 (i := 3) C hR (by decide) K3 (by decide) (by decide) (fun R4 I4 K4 => ?_)
  refine EV_h1 (i := 4) C hR (by decide) K4 (by decide) (by decide) (fun R5 I5 K5 => ?_)
  refine EV_blk (own := 2) C rfl [(.iload_n 1, 0, 0, 0, 0), (.iconst 5, 0, 0, 0, (nI 5))] (pc' := 16) (by decide +kernel) (lv' := [some (.ref 17), some (.int (nI (4 + 1)))]) (st' := [.int (nI 5), .int (nI (4 + 1))]) (I' := I5) (J' := 0) rfl ?_
  refine EV_icmp_ge (off := 22) (tgt := 38) C (by decide +kernel) (by decide) (fun g1 => ?_) (fun g1 => absurd (by decide) g1)
  obtain ⟨k1, k2, k3, k4, k5⟩ := K5
  refine EV_vret C hZ rfl (by decide +kernel) (by decide) (by decide) ⟨rfl, rfl, rfl, k1, fun a j h1 h2 => ?_⟩
  by_cases e1 : a = 17
  · subst e1
    exact ⟨k2 j, by rw [(k3 j).1, tx_I00 (by decide +kernel)]⟩
  · by_cases e2 : a = 18
    · subst e2
      refine ⟨?_, by rw [(k3 j).2, tx_I00 (by decide +kernel)]⟩
      rw [k4]
      by_cases hj : j < 4 + 1
      · rw [if_pos hj]
      · rw [if_neg hj, tx_end (f := 5) (by decide +kernel) j (by omega)]
    · exact k5 a j (by omega) (by omega)
set_option maxRecDepth 20000 in
theorem c_X11_init (g : tq_G) (R : tq_R) (I : tq_I) (h0 : ∀ j, R 0 j = none ∧ I 0 j = 0) : CT g mX11_init 5 116 10025 [.ref 0] (tx_A.take (1)) R I 0 (fun r sh' R' I' J' => r = none ∧ sh' = tx_A.take 117 ∧ R' = tq_RR ∧ J' = 0 ∧ ∃ I1 : tq_I, (∀ a j, a < 117 → I1 a j = tx_I0 a j) ∧ I' = I_X8_startMap I1 4 4 (nI 0)) := by
  refine CT.of kX11_init (Nat.le_of_ble_eq_true rfl) (fun x0 C hR0 hZ => ?_)
  have hR := tq_ht.of hR0
  refine EV_en (lv' := [some (.ref 0)]) 0 rfl ?_
  refine EV_blk (own := 11) C rfl [(.aload_n 0, 0, 0, 0, 0)] (pc' := 1) (by decide +kernel) (lv' := [some (.ref 0)]) (st' := [.ref 0]) (I' := I) (J' := 0) rfl ?_
  refine EV_obj (own := 11) (idx := 3) (pl := 80) C hR rfl (by decide) (by decide +kernel) (by decide) (by decide) ?_
  have K0 : tx_K 0 (1) 0 R I tx_I0 R I := ⟨fun _ _ _ => ⟨rfl, rfl⟩, fun j => by rw [if_neg (Nat.not_lt_zero j)]; exact (h0 j).1, fun j => (h0 j).2, fun a1 j h1 h2 => by omega⟩
  refine EV_blk (own := 11) C rfl [(.aload_n 0, 0, 0, 0, 0)] (pc' := 5) (by decide +kernel) (lv' := [some (.ref 0)]) (st' := [.ref 0]) (I' := I) (J' := 0) rfl ?_
  refine EV_fO (own := 11) (idxK := 9) (plK := 83) (idxI := 11) (idx := 12) (c := 11) (c' := 8) (j := 0) (pl := 368) (e := 17) (μ' := mX8_init) C hR K0 (by omega) (by omega) (by decide +kernel) (by decide) (by decide +kernel) rfl (by decide) (Or.inr ⟨85, by decide⟩) kX8_init sX8_init rfl (fun R2 I2 h2 => c_X8_init g R2 I2 (1) (by decide) h2) (by decide) (by decide +kernel) (by decide +kernel) (by decide +kernel) (by decide +kernel) (Or.inr ⟨rfl, rfl⟩) (Or.inr ⟨_, rfl⟩) (by decide) (Nat.le_of_ble_eq_true rfl) (by decide) (by decide) (by decide) (fun i h1 h2 => absurd h2 (by omega)) (by decide +kernel) (by omega) (by omega) (fun R1 I1 K1 => ?_)
  refine EV_blk (own := 11) C rfl [(.aload_n 0, 0, 0, 0, 0)] (pc' := 16) (by decide +kernel) (lv' := [some (.ref 0)]) (st' := [.ref 0]) (I' := I1) (J' := 0) rfl ?_
  refine EV_fO (own := 11) (idxK := 16) (plK := 207) (idxI := 18) (idx := 19) (c := 11) (c' := 2) (j := 1) (pl := 369) (e := 99) (μ' := mX2_init) C hR K1 (by omega) (by omega) (by decide +kernel) (by decide) (by decide +kernel) rfl (by decide) (Or.inl ⟨209, by decide⟩) kX2_init sX2_init rfl (fun R2 I2 h2 => c_X2_init g R2 I2 h2) (by decide) (by decide +kernel) (by decide +kernel) (by decide +kernel) (by decide +kernel) (Or.inr ⟨rfl, rfl⟩) (Or.inr ⟨_, rfl⟩) (by decide) (Nat.le_of_ble_eq_true rfl) (by decide) (by decide) (by decide) (fun i h1 h2 => absurd h2 (by omega)) (by decide +kernel) (by omega) (by omega) (fun R2 I2 K2 => ?_)
  refine EV_blk (own := 11) C rfl [(.aload_n 0, 0, 0, 0, 0)] (pc' := 27) (by decide +kernel) (lv' := [some (.ref 0)]) (st' := [.ref 0]) (I' := I2) (J' := 0) rfl ?_
  refine EV_fO (own := 11) (idxK := 23) (plK := 227) (idxI := 25) (idx := 26) (c := 11) (c' := 5) (j := 2) (pl := 370) (e := 102) (μ' := mX5_init) C hR K2 (by omega) (by omega) (by decide +kernel) (by decide) (by decide +kernel) rfl (by decide) (Or.inr ⟨229, by decide⟩) kX5_init sX5_init rfl (fun R2 I2 h2 => c_X5_init g R2 I2 h2) (by decide) (by decide +kernel) (by decide +kernel) (by decide +kernel) (by decide +kernel) (Or.inr ⟨rfl, rfl⟩) (Or.inr ⟨_, rfl⟩) (by decide) (Nat.le_of_ble_eq_true rfl) (by decide) (by decide) (by decide) (fun i h1 h2 => absurd h2 (by omega)) (by decide +kernel) (by omega) (by omega) (fun R3 I3 K3 => ?_)
  refine EV_blk (own := 11) C rfl [(.aload_n 0, 0, 0, 0, 0)] (pc' := 38) (by decide +kernel) (lv' := [some (.ref 0)]) (st' := [.ref 0]) (I' := I3) (J' := 0) rfl ?_
  refine EV_fO (own := 11) (idxK := 30) (plK := 244) (idxI := 32) (idx := 33) (c := 11) (c' := 7) (j := 3) (pl := 371) (e := 107) (μ' := mX7_init) C hR K3 (by omega) (by omega) (by decide +kernel) (by decide) (by decide +kernel) rfl (by decide) (Or.inr ⟨246, by decide⟩) kX7_init sX7_init rfl (fun R2 I2 h2 => c_X7_init g R2 I2 h2) (by decide) (by decide +kernel) (by decide +kernel) (by decide +kernel) (by decide +kernel) (Or.inr ⟨rfl, rfl⟩) (Or.inr ⟨_, rfl⟩) (by decide) (Nat.le_of_ble_eq_true rfl) (by decide) (by decide) (by decide) (fun i h1 h2 => absurd h2 (by omega)) (by decide +kernel) (by omega) (by omega) (fun R4 I4 K4 => ?_)
  refine EV_blk (own := 11) C rfl [(.aload_n 0, 0, 0, 0, 0)] (pc' := 49) (by decide +kernel) (lv' := [some (.ref 0)]) (st' := [.ref 0]) (I' := I4) (J' := 0) rfl ?_
  refine EV_fO (own := 11) (idxK := 37) (plK := 281) (idxI := 39) (idx := 40) (c := 11) (c' := 9) (j := 4) (pl := 372) (e := 111) (μ' := mX9_init) C hR K4 (by omega) (by omega) (by decide +kernel) (by decide) (by decide +kernel) rfl (by decide) (Or.inr ⟨283, by decide⟩) kX9_init sX9_init rfl (fun R2 I2 h2 => c_X9_init g R2 I2 h2) (by decide) (by decide +kernel) (by decide +kernel) (by decide +kernel) (by decide +kernel) (Or.inr ⟨rfl, rfl⟩) (Or.inr ⟨_, rfl⟩) (by decide) (Nat.le_of_ble_eq_true rfl) (by decide) (by decide) (by decide) (fun i h1 h2 => absurd h2 (by omega)) (by decide +kernel) (by omega) (by omega) (fun R5 I5 K5 => ?_)
  refine EV_blk (own := 11) C rfl [(.aload_n 0, 0, 0, 0, 0)] (pc' := 60) (by decide +kernel) (lv' := [some (.ref 0)]) (st' := [.ref 0]) (I' := I5) (J' := 0) rfl ?_
  refine EV_fO (own := 11) (idxK := 44) (plK := 303) (idxI := 46) (idx := 47) (c := 11) (c' := 0) (j := 5) (pl := 373) (e := 113) (μ' := mX0_init) C hR K5 (by omega) (by omega) (by decide +kernel) (by decide) (by decide +kernel) rfl (by decide) (Or.inr ⟨305, by decide⟩) kX0_init sX0_init rfl (fun R2 I2 h2 => c_X0_init g R2 I2 (111) (by decide) h2) (by decide) (by decide +kernel) (by decide +kernel) (by decide +kernel) (by decide +kernel) (Or.inr ⟨rfl, rfl⟩) (Or.inr ⟨_, rfl⟩) (by decide) (Nat.le_of_ble_eq_true rfl) (by decide) (by decide) (by decide) (fun i h1 h2 => absurd h2 (by omega)) (by decide +kernel) (by omega) (by omega) (fun R6 I6 K6 => ?_)
  refine EV_blk (own := 11) C rfl [(.aload_n 0, 0, 0, 0, 0)] (pc' := 71) (by decide +kernel) (lv' := [some (.ref 0)]) (st' := [.ref 0]) (I' := I6) (J' := 0) rfl ?_
  refine EV_fO (own := 11) (idxK := 44) (plK := 303) (idxI := 46) (idx := 51) (c := 11) (c' := 0) (j := 6) (pl := 374) (e := 115) (μ' := mX0_init) C hR K6 (by omega) (by omega) (by decide +kernel) (by decide) (by decide +kernel) rfl (by decide) (Or.inr ⟨305, by decide⟩) kX0_init sX0_init rfl (fun R2 I2 h2 => c_X0_init g R2 I2 (113) (by decide) h2) (by decide) (by decide +kernel) (by decide +kernel) (by decide +kernel) (by decide +kernel) (Or.inr ⟨rfl, rfl⟩) (Or.inr ⟨_, rfl⟩) (by decide) (Nat.le_of_ble_eq_true rfl) (by decide) (by decide) (by decide) (fun i h1 h2 => absurd h2 (by omega)) (by decide +kernel) (by omega) (by omega) (fun R7 I7 K7 => ?_)
  refine EV_blk (own := 11) C rfl [(.aload_n 0, 0, 0, 0, 0)] (pc' := 82) (by decide +kernel) (lv' := [some (.ref 0)]) (st' := [.ref 0]) (I' := I7) (J' := 0) rfl ?_
  refine EV_fO (own := 11) (idxK := 54) (plK := 320) (idxI := 56) (idx := 57) (c := 11) (c' := 4) (j := 7) (pl := 375) (e := 117) (μ' := mX4_init) C hR K7 (by omega) (by omega) (by decide +kernel) (by decide) (by decide +kernel) rfl (by decide) (Or.inr ⟨322, by decide⟩) kX4_init sX4_init rfl (fun R2 I2 h2 => c_X4_init g R2 I2 h2) (by decide) (by decide +kernel) (by decide +kernel) (by decide +kernel) (by decide +kernel) (Or.inr ⟨rfl, rfl⟩) (Or.inr ⟨_, rfl⟩) (by decide) (Nat.le_of_ble_eq_true rfl) (by decide) (by decide) (by decide) (fun i h1 h2 => absurd h2 (by omega)) (by decide +kernel) (by omega) (by omega) (fun R8 I8 K8 => ?_)
  have Q8 := K8.q (by decide +kernel) (tx_I00 (by decide +kernel))
  refine EV_cg (R' := tq_RR) (I' := I8) (fun a ha j => ⟨(Q8.2.2.2.2 a j (by omega) (by rw [tx_len (by decide)] at ha; exact ha)).1.symm, rfl⟩) ?_
  have e : tx_A.take 117 = tq_SC ++ [] := by decide +kernel
  rw [e]
  refine EV_blk (own := 11) C rfl [(.aload_n 0, 0, 0, 0, 0), (.getfield 12, 11, 0, 368, 0), (.iconst 4, 0, 0, 0, (nI 4)), (.iconst 4, 0, 0, 0, (nI 4)), (.iconst 0, 0, 0, 0, (nI 0))] (pc' := 99) (by decide +kernel) (lv' := [some (.ref 0)]) (st' := [.int (nI 0), .int (nI 4), .int (nI 4), .ref 1]) (I' := I8) (J' := 0) rfl ?_
  refine EV_cV (own := 11) (idx := 61) (μ' := mX8_startMap) (b := 1) (cb := 8) (av := [.int (nI 4), .int (nI 4), .int (nI 0)]) (rest := []) C hR rfl (Or.inl ⟨345, by decide⟩) kX8_startMap sX8_startMap (c_X8_startMap g [] I8 0 4 4 (nI 0) (by decide) (by decide)) rfl rfl (by decide +kernel) rfl (by decide) (Nat.le_of_ble_eq_true rfl) rfl ⟨by decide, by decide⟩ ?_
  exact EV_vret C hZ rfl (by decide +kernel) (by decide) (by decide) ⟨rfl, e.symm, rfl, rfl, I8, fun a j ha => (Q8.2.2.2.2 a j (by omega) ha).2, rfl⟩
/-- the reference's ints, before its own loop and its first map -/
def tx_TM : tq_I := fun a j => if a = 122 then tq_aside.getD j 0 else if a = 123 then tq_down.getD j 0 else 0
theorem tx_TM0 {a : Nat} (h : a ≠ 122 ∧ a ≠ 123) (j : Nat) : tx_TM a j = 0 := by
  unfold tx_TM
  rw [if_neg h.1, if_neg h.2]
def f_mi1 (i : Nat) (I : tq_I) : tq_I := tq_u (tq_u (tq_u I 118 (4 + i) (nI i)) 118 (10 + i) (nI 65534)) 118 (16 + i) (nI 1)
set_option maxRecDepth 20000 in
theorem lp_mi1 {g : tq_G} {x0 : tq_X} (C : tq_C g mX12_init x0) : ∀ (n i : Nat) (I : tq_I), i + n = 6 → EV g mX12_init x0 (0 + 1 + 1 + 1 + 1 + 1 + 1 + 1 + 1 + 1 + 1 + 1 + 1 + 1) (0 + 8058 + 150 + 150 + 121 + 8 + 8 + 5 + 4 + 4 + 16 + 800 + 800 + 121) 222 [some (.ref 117), some (.int (nI (i + n)))] [] (tq_SC ++ tq_SR) tq_RR (tq_it f_mi1 n i I) 0 → EV g mX12_init x0 (0 + 1 + 1 + 1 + 1 + 1 + 1 + 1 + 1 + 1 + 1 + 1 + 1 + 1) (0 + 8058 + 150 + 150 + 121 + 8 + 8 + 5 + 4 + 4 + 16 + 800 + 800 + 121) 180 [some (.ref 117), some (.int (nI i))] [] (tq_SC ++ tq_SR) tq_RR I 0 := by
  intro n
  induction n with
  | zero =>
    intro i I hi kk
    refine EV_blk (own := 12) C rfl [(.iload_n 1, 0, 0, 0, 0), (.bipush 6, 0, 0, 0, (nI 6))] (pc' := 183) (by decide +kernel) (lv' := [some (.ref 117), some (.int (nI i))]) (st' := [.int (nI 6), .int (nI i)]) (I' := I) (J' := 0) rfl ?_
    refine EV_icmp_ge (off := 39) (tgt := 222) C (by decide +kernel) (by decide) (fun h1 => ?_) (fun h1 => ?_)
    · exact kk
    · exact absurd ((nI_leI (by omega) (by omega)).mpr (by omega)) h1
  | succ n ih =>
    intro i I hi kk
    refine EV_blk (own := 12) C rfl [(.iload_n 1, 0, 0, 0, 0), (.bipush 6, 0, 0, 0, (nI 6))] (pc' := 183) (by decide +kernel) (lv' := [some (.ref 117), some (.int (nI i))]) (st' := [.int (nI 6), .int (nI i)]) (I' := I) (J' := 0) rfl ?_
    refine EV_icmp_ge (off := 39) (tgt := 222) C (by decide +kernel) (by decide) (fun h1 => ?_) (fun h1 => ?_)
    · have := (nI_leI (by omega) (by omega)).mp h1
      omega
    · refine EV_blk (own := 12) C rfl [(.aload_n 0, 0, 0, 0, 0), (.getfield 7, 12, 0, 899, 0), (.iconst 4, 0, 0, 0, (nI 4)), (.iload_n 1, 0, 0, 0, 0), (.iadd, 0, 0, 0, 0), (.iload_n 1, 0, 0, 0, 0)] (pc' := 194) (by decide +kernel) (lv' := [some (.ref 117), some (.int (nI i))]) (st' := [.int (nI i), .int ((nI 4) + (nI i)), .ref 118]) (I' := I) (J' := 0) rfl ?_
      refine EV_iast (j := 4 + i) C (by decide +kernel) rfl (by rw [nI_add, nI_toInt (by omega)]) (by omega) ?_
      refine EV_blk (own := 12) C rfl [(.aload_n 0, 0, 0, 0, 0), (.getfield 7, 12, 0, 899, 0), (.bipush 10, 0, 0, 0, (nI 10)), (.iload_n 1, 0, 0, 0, 0), (.iadd, 0, 0, 0, 0), (.ldc 50, 0, 0, 879, (nI 65534))] (pc' := 205) (by decide +kernel) (lv' := [some (.ref 117), some (.int (nI i))]) (st' := [.int (nI 65534), .int ((nI 10) + (nI i)), .ref 118]) (I' := tq_u I 118 (4 + i) (nI i)) (J' := 0) rfl ?_
      refine EV_iast (j := 10 + i) C (by decide +kernel) rfl (by rw [nI_add, nI_toInt (by omega)]) (by omega) ?_
      refine EV_blk (own := 12) C rfl [(.aload_n 0, 0, 0, 0, 0), (.getfield 7, 12, 0, 899, 0), (.bipush 16, 0, 0, 0, (nI 16)), (.iload_n 1, 0, 0, 0, 0), (.iadd, 0, 0, 0, 0), (.iconst 1, 0, 0, 0, (nI 1))] (pc' := 215) (by decide +kernel) (lv' := [some (.ref 117), some (.int (nI i))]) (st' := [.int (nI 1), .int ((nI 16) + (nI i)), .ref 118]) (I' := tq_u (tq_u I 118 (4 + i) (nI i)) 118 (10 + i) (nI 65534)) (J' := 0) rfl ?_
      refine EV_iast (j := 16 + i) C (by decide +kernel) rfl (by rw [nI_add, nI_toInt (by omega)]) (by omega) ?_
      refine EV_blk (own := 12) C rfl [(.iinc 1 1, 0, 0, 0, (nI 1)), (.goto (-39), 0, 0, 0, 0)] (pc' := 180) (by decide +kernel) (lv' := [some (.ref 117), some (.int ((nI i) + (nI 1)))]) (st' := []) (I' := f_mi1 i I) (J' := 0) rfl ?_
      rw [nI_add]
      rw [tq_its, show i + (n + 1) = (i + 1) + n by omega] at kk
      exact ih (i + 1) _ (by omega) kk
theorem tx_st8_122 (I : tq_I) (j : Nat) : (tq_u (tq_u (tq_u (tq_u (tq_u (tq_u (tq_u (tq_u (tq_z I 122) 122 0 (nI 0)) 122 1 (nI 1)) 122 2 (nI 1)) 122 3 (nI 1)) 122 4 (nI 0)) 122 5 (-1)) 122 6 (-1)) 122 7 (-1)) 122 j = tx_TM 122 j := by
  by_cases h : j < 8
  · rcases (show j = 0 ∨ j = 1 ∨ j = 2 ∨ j = 3 ∨ j = 4 ∨ j = 5 ∨ j = 6 ∨ j = 7 by omega) with rfl | rfl | rfl | rfl | rfl | rfl | rfl | rfl <;> simp [tq_u, tq_z, tx_TM, tq_aside, nI] <;> decide
  · have e : tx_TM 122 j = 0 := by
      unfold tx_TM
      simp [tq_aside, List.getElem?_eq_none (show ([0, 0, 0, 0, 0, 0, 0, 0] : List Int32).length ≤ j from Nat.le_of_not_lt h)]
      try (rw [List.getElem?_eq_none (by simp; omega)]; rfl)
    rw [e]
    have h0 : j ≠ 0 := by omega
    have h1 : j ≠ 1 := by omega
    have h2 : j ≠ 2 := by omega
    have h3 : j ≠ 3 := by omega
    have h4 : j ≠ 4 := by omega
    have h5 : j ≠ 5 := by omega
    have h6 : j ≠ 6 := by omega
    have h7 : j ≠ 7 := by omega
    simp [tq_u, tq_z, h0, h1, h2, h3, h4, h5, h6, h7]
theorem tx_st8_123 (I : tq_I) (j : Nat) : (tq_u (tq_u (tq_u (tq_u (tq_u (tq_u (tq_u (tq_u (tq_z I 123) 123 0 (-1)) 123 1 (-1)) 123 2 (nI 0)) 123 3 (nI 1)) 123 4 (nI 1)) 123 5 (nI 1)) 123 6 (nI 0)) 123 7 (-1)) 123 j = tx_TM 123 j := by
  by_cases h : j < 8
  · rcases (show j = 0 ∨ j = 1 ∨ j = 2 ∨ j = 3 ∨ j = 4 ∨ j = 5 ∨ j = 6 ∨ j = 7 by omega) with rfl | rfl | rfl | rfl | rfl | rfl | rfl | rfl <;> simp [tq_u, tq_z, tx_TM, tq_down, nI] <;> decide
  · have e : tx_TM 123 j = 0 := by
      unfold tx_TM
      simp [tq_down, List.getElem?_eq_none (show ([0, 0, 0, 0, 0, 0, 0, 0] : List Int32).length ≤ j from Nat.le_of_not_lt h)]
      try (rw [List.getElem?_eq_none (by simp; omega)]; rfl)
    rw [e]
    have h0 : j ≠ 0 := by omega
    have h1 : j ≠ 1 := by omega
    have h2 : j ≠ 2 := by omega
    have h3 : j ≠ 3 := by omega
    have h4 : j ≠ 4 := by omega
    have h5 : j ≠ 5 := by omega
    have h6 : j ≠ 6 := by omega
    have h7 : j ≠ 7 := by omega
    simp [tq_u, tq_z, h0, h1, h2, h3, h4, h5, h6, h7]
set_option maxRecDepth 20000 in
theorem c_X12_init (g : tq_G) (R : tq_R) (I : tq_I) (h0 : ∀ j, R 117 j = none ∧ I 117 j = 0) (hb : ∀ a j, a < 117 → R a j = tq_RR a j) : CT g mX12_init 5 13 10245 [.ref 117] (tx_A.take 118) R I 0 (fun r sh' R' I' J' => r = none ∧ sh' = tq_SC ++ tq_SR ∧ R' = tq_RR ∧ J' = 0 ∧ ∃ I1 : tq_I, (∀ a j, a < 117 → I1 a j = I a j) ∧ (∀ a j, 117 ≤ a → a < 131 → I1 a j = tx_TM a j) ∧ I' = I_X12_begins (tq_it f_mi1 6 0 I1) 4 4) := by
  refine CT.of kX12_init (Nat.le_of_ble_eq_true rfl) (fun x0 C hR0 hZ => ?_)
  have hR := tq_ht.of hR0
  refine EV_en (lv' := [some (.ref 117), none]) 1 rfl ?_
  refine EV_blk (own := 12) C rfl [(.aload_n 0, 0, 0, 0, 0)] (pc' := 1) (by decide +kernel) (lv' := [some (.ref 117), none]) (st' := [.ref 117]) (I' := I) (J' := 0) rfl ?_
  refine EV_obj (own := 12) (idx := 1) (pl := 878) C hR rfl (by decide) (by decide +kernel) (by decide) (by decide) ?_
  have K0 : tx_K 117 118 0 R I tx_TM R I := ⟨fun _ _ _ => ⟨rfl, rfl⟩, fun j => by rw [if_neg (Nat.not_lt_zero j)]; exact (h0 j).1, fun j => (h0 j).2, fun a1 j h1 h2 => by omega⟩
  refine EV_blk (own := 12) C rfl [(.aload_n 0, 0, 0, 0, 0), (.sipush 8058, 0, 0, 0, (nI 8058))] (pc' := 8) (by decide +kernel) (lv' := [some (.ref 117), none]) (st' := [.int (nI 8058), .ref 117]) (I' := I) (J' := 0) rfl ?_
  refine EV_fA (own := 12) (idx := 7) (c := 12) (j := 0) (pl := 899) (m := 8058) C hR K0 (by decide) (by decide) (by decide) (by decide) (by decide +kernel) (by decide +kernel) rfl (by decide) (by decide +kernel) (by decide +kernel) (Or.inr ⟨rfl, rfl⟩) (Or.inl ⟨_, rfl⟩) (by decide) (by decide) (by decide) (fun i h1 h2 => absurd h2 (by omega)) (by decide +kernel) (by decide +kernel) (tx_TM0 (by decide)) (fun R1 I1 K1 => ?_)
  refine EV_blk (own := 12) C rfl [(.aload_n 0, 0, 0, 0, 0), (.sipush 150, 0, 0, 0, (nI 150))] (pc' := 17) (by decide +kernel) (lv' := [some (.ref 117), none]) (st' := [.int (nI 150), .ref 117]) (I' := I1) (J' := 0) rfl ?_
  refine EV_fA (own := 12) (idx := 13) (c := 12) (j := 2) (pl := 901) (m := 150) C hR K1 (by decide) (by decide) (by decide) (by decide) (by decide +kernel) (by decide +kernel) rfl (by decide) (by decide +kernel) (by decide +kernel) (Or.inr ⟨rfl, rfl⟩) (Or.inl ⟨_, rfl⟩) (by decide) (by decide) (by decide) (fun i h1 h2 => (show ∀ i, i < 2 → 1 ≤ i → tq_RR 117 i = none by decide +kernel) i h2 h1) (by decide +kernel) (by decide +kernel) (tx_TM0 (by decide)) (fun R2 I2 K2 => ?_)
  refine EV_blk (own := 12) C rfl [(.aload_n 0, 0, 0, 0, 0), (.sipush 150, 0, 0, 0, (nI 150))] (pc' := 26) (by decide +kernel) (lv' := [some (.ref 117), none]) (st' := [.int (nI 150), .ref 117]) (I' := I2) (J' := 0) rfl ?_
  refine EV_fA (own := 12) (idx := 16) (c := 12) (j := 4) (pl := 903) (m := 150) C hR K2 (by decide) (by decide) (by decide) (by decide) (by decide +kernel) (by decide +kernel) rfl (by decide) (by decide +kernel) (by decide +kernel) (Or.inr ⟨rfl, rfl⟩) (Or.inl ⟨_, rfl⟩) (by decide) (by decide) (by decide) (fun i h1 h2 => (show ∀ i, i < 4 → 3 ≤ i → tq_RR 117 i = none by decide +kernel) i h2 h1) (by decide +kernel) (by decide +kernel) (tx_TM0 (by decide)) (fun R3 I3 K3 => ?_)
  refine EV_blk (own := 12) C rfl [(.aload_n 0, 0, 0, 0, 0), (.bipush 121, 0, 0, 0, (nI 121))] (pc' := 34) (by decide +kernel) (lv' := [some (.ref 117), none]) (st' := [.int (nI 121), .ref 117]) (I' := I3) (J' := 0) rfl ?_
  refine EV_newz (m := 121) C hR (by decide) (by decide) (by rw [tx_len (by decide)]; decide) (by decide +kernel) (by decide) (by decide) ?_
  rw [tx_len (by decide), tx_snoc (n := 121) (s := .inr (1, 121)) (by decide +kernel)]
  refine EV_putr (own := 12) (idx := 19) (c := 12) (j := 6) (pl := 905) C rfl (by decide) (by decide +kernel) (tx_get (by decide) (by decide +kernel)) (Or.inr ⟨rfl, rfl⟩) (Or.inl ⟨_, rfl⟩) ?_
  have K4 := K3.put (j := 6) (e := 122) (by decide) (by decide) (fun i h1 h2 => (show ∀ i, i < 6 → 5 ≤ i → tq_RR 117 i = none by decide +kernel) i h2 h1) (by decide +kernel) (R1 := tq_zR R3 121) (I1 := (tq_z I3 121)) (fun a i ha => by have hne : a ≠ 121 := (by omega); simp [tq_zR, tq_z, tq_u, hne]) (fun a i ha ha2 => by have he : a = 121 := (by omega); subst he; rw [tx_nil (by decide +kernel), tx_TM0 (by decide)]; simp [tq_zR, tq_z])
  generalize hgR : tq_uR (tq_zR R3 121) 117 6 (some 121) = R4 at K4 ⊢
  generalize hgI : (tq_z I3 121) = I4 at K4 ⊢
  clear hgR hgI
  refine EV_blk (own := 12) C rfl [(.aload_n 0, 0, 0, 0, 0), (.bipush 8, 0, 0, 0, (nI 8))] (pc' := 42) (by decide +kernel) (lv' := [some (.ref 117), none]) (st' := [.int (nI 8), .ref 117]) (I' := I4) (J' := 0) rfl ?_
  refine EV_newi (m := 8) C hR (by decide) (by decide) (by rw [tx_len (by decide)]; decide) (by decide +kernel) (by decide) (by decide) ?_
  rw [tx_len (by decide), tx_snoc (n := 122) (s := .inr (0, 8)) (by decide +kernel)]
  refine EV_blk (own := 12) C rfl [(.dup, 0, 0, 0, 0), (.iconst 0, 0, 0, 0, (nI 0)), (.iconst 0, 0, 0, 0, (nI 0))] (pc' := 47) (by decide +kernel) (lv' := [some (.ref 117), none]) (st' := [.int (nI 0), .int (nI 0), .ref 122, .ref 122, .ref 117]) (I' := (tq_z I4 122)) (J' := 0) rfl ?_
  refine EV_iast (j := 0) (m := 8) C (by decide +kernel) (tx_get (by decide) (by decide +kernel)) (by decide) (by decide) ?_
  refine EV_blk (own := 12) C rfl [(.dup, 0, 0, 0, 0), (.iconst 1, 0, 0, 0, (nI 1)), (.iconst 1, 0, 0, 0, (nI 1))] (pc' := 51) (by decide +kernel) (lv' := [some (.ref 117), none]) (st' := [.int (nI 1), .int (nI 1), .ref 122, .ref 122, .ref 117]) (I' := (tq_u (tq_z I4 122) 122 0 (nI 0))) (J' := 0) rfl ?_
  refine EV_iast (j := 1) (m := 8) C (by decide +kernel) (tx_get (by decide) (by decide +kernel)) (by decide) (by decide) ?_
  refine EV_blk (own := 12) C rfl [(.dup, 0, 0, 0, 0), (.iconst 2, 0, 0, 0, (nI 2)), (.iconst 1, 0, 0, 0, (nI 1))] (pc' := 55) (by decide +kernel) (lv' := [some (.ref 117), none]) (st' := [.int (nI 1), .int (nI 2), .ref 122, .ref 122, .ref 117]) (I' := (tq_u (tq_u (tq_z I4 122) 122 0 (nI 0)) 122 1 (nI 1))) (J' := 0) rfl ?_
  refine EV_iast (j := 2) (m := 8) C (by decide +kernel) (tx_get (by decide) (by decide +kernel)) (by decide) (by decide) ?_
  refine EV_blk (own := 12) C rfl [(.dup, 0, 0, 0, 0), (.iconst 3, 0, 0, 0, (nI 3)), (.iconst 1, 0, 0, 0, (nI 1))] (pc' := 59) (by decide +kernel) (lv' := [some (.ref 117), none]) (st' := [.int (nI 1), .int (nI 3), .ref 122, .ref 122, .ref 117]) (I' := (tq_u (tq_u (tq_u (tq_z I4 122) 122 0 (nI 0)) 122 1 (nI 1)) 122 2 (nI 1))) (J' := 0) rfl ?_
  refine EV_iast (j := 3) (m := 8) C (by decide +kernel) (tx_get (by decide) (by decide +kernel)) (by decide) (by decide) ?_
  refine EV_blk (own := 12) C rfl [(.dup, 0, 0, 0, 0), (.iconst 4, 0, 0, 0, (nI 4)), (.iconst 0, 0, 0, 0, (nI 0))] (pc' := 63) (by decide +kernel) (lv' := [some (.ref 117), none]) (st' := [.int (nI 0), .int (nI 4), .ref 122, .ref 122, .ref 117]) (I' := (tq_u (tq_u (tq_u (tq_u (tq_z I4 122) 122 0 (nI 0)) 122 1 (nI 1)) 122 2 (nI 1)) 122 3 (nI 1))) (J' := 0) rfl ?_
  refine EV_iast (j := 4) (m := 8) C (by decide +kernel) (tx_get (by decide) (by decide +kernel)) (by decide) (by decide) ?_
  refine EV_blk (own := 12) C rfl [(.dup, 0, 0, 0, 0), (.iconst 5, 0, 0, 0, (nI 5)), (.iconst (-1), 0, 0, 0, (-1))] (pc' := 67) (by decide +kernel) (lv' := [some (.ref 117), none]) (st' := [.int (-1), .int (nI 5), .ref 122, .ref 122, .ref 117]) (I' := (tq_u (tq_u (tq_u (tq_u (tq_u (tq_z I4 122) 122 0 (nI 0)) 122 1 (nI 1)) 122 2 (nI 1)) 122 3 (nI 1)) 122 4 (nI 0))) (J' := 0) rfl ?_
  refine EV_iast (j := 5) (m := 8) C (by decide +kernel) (tx_get (by decide) (by decide +kernel)) (by decide) (by decide) ?_
  refine EV_blk (own := 12) C rfl [(.dup, 0, 0, 0, 0), (.bipush 6, 0, 0, 0, (nI 6)), (.iconst (-1), 0, 0, 0, (-1))] (pc' := 72) (by decide +kernel) (lv' := [some (.ref 117), none]) (st' := [.int (-1), .int (nI 6), .ref 122, .ref 122, .ref 117]) (I' := (tq_u (tq_u (tq_u (tq_u (tq_u (tq_u (tq_z I4 122) 122 0 (nI 0)) 122 1 (nI 1)) 122 2 (nI 1)) 122 3 (nI 1)) 122 4 (nI 0)) 122 5 (-1))) (J' := 0) rfl ?_
  refine EV_iast (j := 6) (m := 8) C (by decide +kernel) (tx_get (by decide) (by decide +kernel)) (by decide) (by decide) ?_
  refine EV_blk (own := 12) C rfl [(.dup, 0, 0, 0, 0), (.bipush 7, 0, 0, 0, (nI 7)), (.iconst (-1), 0, 0, 0, (-1))] (pc' := 77) (by decide +kernel) (lv' := [some (.ref 117), none]) (st' := [.int (-1), .int (nI 7), .ref 122, .ref 122, .ref 117]) (I' := (tq_u (tq_u (tq_u (tq_u (tq_u (tq_u (tq_u (tq_z I4 122) 122 0 (nI 0)) 122 1 (nI 1)) 122 2 (nI 1)) 122 3 (nI 1)) 122 4 (nI 0)) 122 5 (-1)) 122 6 (-1))) (J' := 0) rfl ?_
  refine EV_iast (j := 7) (m := 8) C (by decide +kernel) (tx_get (by decide) (by decide +kernel)) (by decide) (by decide) ?_
  refine EV_putr (own := 12) (idx := 23) (c := 12) (j := 7) (pl := 906) C rfl (by decide) (by decide +kernel) (tx_get (by decide) (by decide +kernel)) (Or.inr ⟨rfl, rfl⟩) (Or.inl ⟨_, rfl⟩) ?_
  have K5 := K4.put (j := 7) (e := 123) (by decide) (by decide) (fun i h1 h2 => absurd h2 (by omega)) (by decide +kernel) (R1 := tq_zR R4 122) (I1 := (tq_u (tq_u (tq_u (tq_u (tq_u (tq_u (tq_u (tq_u (tq_z I4 122) 122 0 (nI 0)) 122 1 (nI 1)) 122 2 (nI 1)) 122 3 (nI 1)) 122 4 (nI 0)) 122 5 (-1)) 122 6 (-1)) 122 7 (-1))) (fun a i ha => by have hne : a ≠ 122 := (by omega); simp [tq_zR, tq_z, tq_u, hne]) (fun a i ha ha2 => by have he : a = 122 := (by omega); subst he; rw [tx_nil (by decide +kernel)]; refine ⟨by simp [tq_zR], ?_⟩; exact tx_st8_122 I4 i)
  generalize hgR : tq_uR (tq_zR R4 122) 117 7 (some 122) = R5 at K5 ⊢
  generalize hgI : (tq_u (tq_u (tq_u (tq_u (tq_u (tq_u (tq_u (tq_u (tq_z I4 122) 122 0 (nI 0)) 122 1 (nI 1)) 122 2 (nI 1)) 122 3 (nI 1)) 122 4 (nI 0)) 122 5 (-1)) 122 6 (-1)) 122 7 (-1)) = I5 at K5 ⊢
  clear hgR hgI
  refine EV_blk (own := 12) C rfl [(.aload_n 0, 0, 0, 0, 0), (.bipush 8, 0, 0, 0, (nI 8))] (pc' := 84) (by decide +kernel) (lv' := [some (.ref 117), none]) (st' := [.int (nI 8), .ref 117]) (I' := I5) (J' := 0) rfl ?_
  refine EV_newi (m := 8) C hR (by decide) (by decide) (by rw [tx_len (by decide)]; decide) (by decide +kernel) (by decide) (by decide) ?_
  rw [tx_len (by decide), tx_snoc (n := 123) (s := .inr (0, 8)) (by decide +kernel)]
  refine EV_blk (own := 12) C rfl [(.dup, 0, 0, 0, 0), (.iconst 0, 0, 0, 0, (nI 0)), (.iconst (-1), 0, 0, 0, (-1))] (pc' := 89) (by decide +kernel) (lv' := [some (.ref 117), none]) (st' := [.int (-1), .int (nI 0), .ref 123, .ref 123, .ref 117]) (I' := (tq_z I5 123)) (J' := 0) rfl ?_
  refine EV_iast (j := 0) (m := 8) C (by decide +kernel) (tx_get (by decide) (by decide +kernel)) (by decide) (by decide) ?_
  refine EV_blk (own := 12) C rfl [(.dup, 0, 0, 0, 0), (.iconst 1, 0, 0, 0, (nI 1)), (.iconst (-1), 0, 0, 0, (-1))] (pc' := 93) (by decide +kernel) (lv' := [some (.ref 117), none]) (st' := [.int (-1), .int (nI 1), .ref 123, .ref 123, .ref 117]) (I' := (tq_u (tq_z I5 123) 123 0 (-1))) (J' := 0) rfl ?_
  refine EV_iast (j := 1) (m := 8) C (by decide +kernel) (tx_get (by decide) (by decide +kernel)) (by decide) (by decide) ?_
  refine EV_blk (own := 12) C rfl [(.dup, 0, 0, 0, 0), (.iconst 2, 0, 0, 0, (nI 2)), (.iconst 0, 0, 0, 0, (nI 0))] (pc' := 97) (by decide +kernel) (lv' := [some (.ref 117), none]) (st' := [.int (nI 0), .int (nI 2), .ref 123, .ref 123, .ref 117]) (I' := (tq_u (tq_u (tq_z I5 123) 123 0 (-1)) 123 1 (-1))) (J' := 0) rfl ?_
  refine EV_iast (j := 2) (m := 8) C (by decide +kernel) (tx_get (by decide) (by decide +kernel)) (by decide) (by decide) ?_
  refine EV_blk (own := 12) C rfl [(.dup, 0, 0, 0, 0), (.iconst 3, 0, 0, 0, (nI 3)), (.iconst 1, 0, 0, 0, (nI 1))] (pc' := 101) (by decide +kernel) (lv' := [some (.ref 117), none]) (st' := [.int (nI 1), .int (nI 3), .ref 123, .ref 123, .ref 117]) (I' := (tq_u (tq_u (tq_u (tq_z I5 123) 123 0 (-1)) 123 1 (-1)) 123 2 (nI 0))) (J' := 0) rfl ?_
  refine EV_iast (j := 3) (m := 8) C (by decide +kernel) (tx_get (by decide) (by decide +kernel)) (by decide) (by decide) ?_
  refine EV_blk (own := 12) C rfl [(.dup, 0, 0, 0, 0), (.iconst 4, 0, 0, 0, (nI 4)), (.iconst 1, 0, 0, 0, (nI 1))] (pc' := 105) (by decide +kernel) (lv' := [some (.ref 117), none]) (st' := [.int (nI 1), .int (nI 4), .ref 123, .ref 123, .ref 117]) (I' := (tq_u (tq_u (tq_u (tq_u (tq_z I5 123) 123 0 (-1)) 123 1 (-1)) 123 2 (nI 0)) 123 3 (nI 1))) (J' := 0) rfl ?_
  refine EV_iast (j := 4) (m := 8) C (by decide +kernel) (tx_get (by decide) (by decide +kernel)) (by decide) (by decide) ?_
  refine EV_blk (own := 12) C rfl [(.dup, 0, 0, 0, 0), (.iconst 5, 0, 0, 0, (nI 5)), (.iconst 1, 0, 0, 0, (nI 1))] (pc' := 109) (by decide +kernel) (lv' := [some (.ref 117), none]) (st' := [.int (nI 1), .int (nI 5), .ref 123, .ref 123, .ref 117]) (I' := (tq_u (tq_u (tq_u (tq_u (tq_u (tq_z I5 123) 123 0 (-1)) 123 1 (-1)) 123 2 (nI 0)) 123 3 (nI 1)) 123 4 (nI 1))) (J' := 0) rfl ?_
  refine EV_iast (j := 5) (m := 8) C (by decide +kernel) (tx_get (by decide) (by decide +kernel)) (by decide) (by decide) ?_
  refine EV_blk (own := 12) C rfl [(.dup, 0, 0, 0, 0), (.bipush 6, 0, 0, 0, (nI 6)), (.iconst 0, 0, 0, 0, (nI 0))] (pc' := 114) (by decide +kernel) (lv' := [some (.ref 117), none]) (st' := [.int (nI 0), .int (nI 6), .ref 123, .ref 123, .ref 117]) (I' := (tq_u (tq_u (tq_u (tq_u (tq_u (tq_u (tq_z I5 123) 123 0 (-1)) 123 1 (-1)) 123 2 (nI 0)) 123 3 (nI 1)) 123 4 (nI 1)) 123 5 (nI 1))) (J' := 0) rfl ?_
  refine EV_iast (j := 6) (m := 8) C (by decide +kernel) (tx_get (by decide) (by decide +kernel)) (by decide) (by decide) ?_
  refine EV_blk (own := 12) C rfl [(.dup, 0, 0, 0, 0), (.bipush 7, 0, 0, 0, (nI 7)), (.iconst (-1), 0, 0, 0, (-1))] (pc' := 119) (by decide +kernel) (lv' := [some (.ref 117), none]) (st' := [.int (-1), .int (nI 7), .ref 123, .ref 123, .ref 117]) (I' := (tq_u (tq_u (tq_u (tq_u (tq_u (tq_u (tq_u (tq_z I5 123) 123 0 (-1)) 123 1 (-1)) 123 2 (nI 0)) 123 3 (nI 1)) 123 4 (nI 1)) 123 5 (nI 1)) 123 6 (nI 0))) (J' := 0) rfl ?_
  refine EV_iast (j := 7) (m := 8) C (by decide +kernel) (tx_get (by decide) (by decide +kernel)) (by decide) (by decide) ?_
  refine EV_putr (own := 12) (idx := 26) (c := 12) (j := 8) (pl := 907) C rfl (by decide) (by decide +kernel) (tx_get (by decide) (by decide +kernel)) (Or.inr ⟨rfl, rfl⟩) (Or.inl ⟨_, rfl⟩) ?_
  have K6 := K5.put (j := 8) (e := 124) (by decide) (by decide) (fun i h1 h2 => absurd h2 (by omega)) (by decide +kernel) (R1 := tq_zR R5 123) (I1 := (tq_u (tq_u (tq_u (tq_u (tq_u (tq_u (tq_u (tq_u (tq_z I5 123) 123 0 (-1)) 123 1 (-1)) 123 2 (nI 0)) 123 3 (nI 1)) 123 4 (nI 1)) 123 5 (nI 1)) 123 6 (nI 0)) 123 7 (-1))) (fun a i ha => by have hne : a ≠ 123 := (by omega); simp [tq_zR, tq_z, tq_u, hne]) (fun a i ha ha2 => by have he : a = 123 := (by omega); subst he; rw [tx_nil (by decide +kernel)]; refine ⟨by simp [tq_zR], ?_⟩; exact tx_st8_123 I5 i)
  generalize hgR : tq_uR (tq_zR R5 123) 117 8 (some 123) = R6 at K6 ⊢
  generalize hgI : (tq_u (tq_u (tq_u (tq_u (tq_u (tq_u (tq_u (tq_u (tq_z I5 123) 123 0 (-1)) 123 1 (-1)) 123 2 (nI 0)) 123 3 (nI 1)) 123 4 (nI 1)) 123 5 (nI 1)) 123 6 (nI 0)) 123 7 (-1)) = I6 at K6 ⊢
  clear hgR hgI
  refine EV_blk (own := 12) C rfl [(.aload_n 0, 0, 0, 0, 0), (.iconst 5, 0, 0, 0, (nI 5))] (pc' := 125) (by decide +kernel) (lv' := [some (.ref 117), none]) (st' := [.int (nI 5), .ref 117]) (I' := I6) (J' := 0) rfl ?_
  refine EV_fA (own := 12) (idx := 29) (c := 12) (j := 9) (pl := 908) (m := 5) C hR K6 (by decide) (by decide) (by decide) (by decide) (by decide +kernel) (by decide +kernel) rfl (by decide) (by decide +kernel) (by decide +kernel) (Or.inr ⟨rfl, rfl⟩) (Or.inl ⟨_, rfl⟩) (by decide) (by decide) (by decide) (fun i h1 h2 => absurd h2 (by omega)) (by decide +kernel) (by decide +kernel) (tx_TM0 (by decide)) (fun R7 I7 K7 => ?_)
  refine EV_blk (own := 12) C rfl [(.aload_n 0, 0, 0, 0, 0), (.iconst 4, 0, 0, 0, (nI 4))] (pc' := 132) (by decide +kernel) (lv' := [some (.ref 117), none]) (st' := [.int (nI 4), .ref 117]) (I' := I7) (J' := 0) rfl ?_
  refine EV_fA (own := 12) (idx := 32) (c := 12) (j := 11) (pl := 910) (m := 4) C hR K7 (by decide) (by decide) (by decide) (by decide) (by decide +kernel) (by decide +kernel) rfl (by decide) (by decide +kernel) (by decide +kernel) (Or.inr ⟨rfl, rfl⟩) (Or.inl ⟨_, rfl⟩) (by decide) (by decide) (by decide) (fun i h1 h2 => (show ∀ i, i < 11 → 10 ≤ i → tq_RR 117 i = none by decide +kernel) i h2 h1) (by decide +kernel) (by decide +kernel) (tx_TM0 (by decide)) (fun R8 I8 K8 => ?_)
  refine EV_blk (own := 12) C rfl [(.aload_n 0, 0, 0, 0, 0), (.iconst 4, 0, 0, 0, (nI 4))] (pc' := 139) (by decide +kernel) (lv' := [some (.ref 117), none]) (st' := [.int (nI 4), .ref 117]) (I' := I8) (J' := 0) rfl ?_
  refine EV_fA (own := 12) (idx := 35) (c := 12) (j := 12) (pl := 911) (m := 4) C hR K8 (by decide) (by decide) (by decide) (by decide) (by decide +kernel) (by decide +kernel) rfl (by decide) (by decide +kernel) (by decide +kernel) (Or.inr ⟨rfl, rfl⟩) (Or.inl ⟨_, rfl⟩) (by decide) (by decide) (by decide) (fun i h1 h2 => absurd h2 (by omega)) (by decide +kernel) (by decide +kernel) (tx_TM0 (by decide)) (fun R9 I9 K9 => ?_)
  refine EV_blk (own := 12) C rfl [(.aload_n 0, 0, 0, 0, 0), (.bipush 16, 0, 0, 0, (nI 16))] (pc' := 147) (by decide +kernel) (lv' := [some (.ref 117), none]) (st' := [.int (nI 16), .ref 117]) (I' := I9) (J' := 0) rfl ?_
  refine EV_fA (own := 12) (idx := 38) (c := 12) (j := 14) (pl := 913) (m := 16) C hR K9 (by decide) (by decide) (by decide) (by decide) (by decide +kernel) (by decide +kernel) rfl (by decide) (by decide +kernel) (by decide +kernel) (Or.inr ⟨rfl, rfl⟩) (Or.inl ⟨_, rfl⟩) (by decide) (by decide) (by decide) (fun i h1 h2 => (show ∀ i, i < 14 → 13 ≤ i → tq_RR 117 i = none by decide +kernel) i h2 h1) (by decide +kernel) (by decide +kernel) (tx_TM0 (by decide)) (fun R10 I10 K10 => ?_)
  refine EV_blk (own := 12) C rfl [(.aload_n 0, 0, 0, 0, 0), (.sipush 800, 0, 0, 0, (nI 800))] (pc' := 156) (by decide +kernel) (lv' := [some (.ref 117), none]) (st' := [.int (nI 800), .ref 117]) (I' := I10) (J' := 0) rfl ?_
  refine EV_fA (own := 12) (idx := 41) (c := 12) (j := 16) (pl := 915) (m := 800) C hR K10 (by decide) (by decide) (by decide) (by decide) (by decide +kernel) (by decide +kernel) rfl (by decide) (by decide +kernel) (by decide +kernel) (Or.inr ⟨rfl, rfl⟩) (Or.inl ⟨_, rfl⟩) (by decide) (by decide) (by decide) (fun i h1 h2 => (show ∀ i, i < 16 → 15 ≤ i → tq_RR 117 i = none by decide +kernel) i h2 h1) (by decide +kernel) (by decide +kernel) (tx_TM0 (by decide)) (fun R11 I11 K11 => ?_)
  refine EV_blk (own := 12) C rfl [(.aload_n 0, 0, 0, 0, 0), (.sipush 800, 0, 0, 0, (nI 800))] (pc' := 165) (by decide +kernel) (lv' := [some (.ref 117), none]) (st' := [.int (nI 800), .ref 117]) (I' := I11) (J' := 0) rfl ?_
  refine EV_fA (own := 12) (idx := 44) (c := 12) (j := 17) (pl := 916) (m := 800) C hR K11 (by decide) (by decide) (by decide) (by decide) (by decide +kernel) (by decide +kernel) rfl (by decide) (by decide +kernel) (by decide +kernel) (Or.inr ⟨rfl, rfl⟩) (Or.inl ⟨_, rfl⟩) (by decide) (by decide) (by decide) (fun i h1 h2 => absurd h2 (by omega)) (by decide +kernel) (by decide +kernel) (tx_TM0 (by decide)) (fun R12 I12 K12 => ?_)
  refine EV_blk (own := 12) C rfl [(.aload_n 0, 0, 0, 0, 0), (.bipush 121, 0, 0, 0, (nI 121))] (pc' := 173) (by decide +kernel) (lv' := [some (.ref 117), none]) (st' := [.int (nI 121), .ref 117]) (I' := I12) (J' := 0) rfl ?_
  refine EV_fA (own := 12) (idx := 47) (c := 12) (j := 20) (pl := 919) (m := 121) C hR K12 (by decide) (by decide) (by decide) (by decide) (by decide +kernel) (by decide +kernel) rfl (by decide) (by decide +kernel) (by decide +kernel) (Or.inr ⟨rfl, rfl⟩) (Or.inl ⟨_, rfl⟩) (by decide) (by decide) (by decide) (fun i h1 h2 => (show ∀ i, i < 20 → 18 ≤ i → tq_RR 117 i = none by decide +kernel) i h2 h1) (by decide +kernel) (by decide +kernel) (tx_TM0 (by decide)) (fun R13 I13 K13 => ?_)
  have Q13 := (K13.up (f' := 26) (by decide) (by decide +kernel)).q (by decide +kernel) (tx_TM0 (by decide))
  refine EV_cg (R' := tq_RR) (I' := I13) (fun a ha j => ⟨?_, rfl⟩) ?_
  · rw [tx_len (by decide)] at ha
    by_cases c : a < 117
    · rw [(Q13.2.2.2.1 a j c).1]; exact (hb a j c).symm
    · exact (Q13.2.2.2.2 a j (by omega) ha).1.symm
  have e : tx_A.take 131 = tq_SC ++ tq_SR := by decide +kernel
  rw [show 130 + 1 = 131 from rfl, e]
  refine EV_blk (own := 12) C rfl [(.iconst 0, 0, 0, 0, (nI 0)), (.istore_n 1, 0, 0, 0, 0)] (pc' := 180) (by decide +kernel) (lv' := [some (.ref 117), some (.int (nI 0))]) (st' := []) (I' := I13) (J' := 0) rfl ?_
  refine lp_mi1 C 6 0 I13 (by omega) ?_
  refine EV_blk (own := 12) C rfl [(.aload_n 0, 0, 0, 0, 0), (.iconst 4, 0, 0, 0, (nI 4)), (.iconst 4, 0, 0, 0, (nI 4))] (pc' := 225) (by decide +kernel) (lv' := [some (.ref 117), some (.int (nI (0 + 6)))]) (st' := [.int (nI 4), .int (nI 4), .ref 117]) (I' := tq_it f_mi1 6 0 I13) (J' := 0) rfl ?_
  refine EV_cV (own := 12) (idx := 51) (μ' := mX12_begins) (b := 117) (cb := 12) (av := [.int (nI 4), .int (nI 4)]) (rest := []) C hR rfl (Or.inl ⟨880, by decide⟩) kX12_begins sX12_begins (c_X12_begins g (tq_it f_mi1 6 0 I13) 0 4 4 (by decide) (by decide)) rfl rfl (by decide +kernel) rfl (by decide) (Nat.le_of_ble_eq_true rfl) rfl ⟨by decide, by decide⟩ ?_
  exact EV_vret C hZ rfl (by decide +kernel) (by decide) (by decide) ⟨rfl, rfl, rfl, rfl, I13, fun a j ha => (Q13.2.2.2.1 a j ha).2, fun a j h1 h2 => (Q13.2.2.2.2 a j h1 h2).2, rfl⟩
