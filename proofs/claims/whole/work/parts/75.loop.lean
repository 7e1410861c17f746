/-! the law: its loop -/
theorem d_sw : decode mL_law.2.1 33 = .ok (.tableswitch 1378 0 39 #[175, 218, 241, 284, 317, 380, 423, 466, 489, 548, 581, 614, 647, 680, 703, 736, 769, 792, 831, 864, 897, 930, 983, 1016, 1069, 1102, 1135, 1148, 1161, 1174, 1207, 1220, 1253, 1266, 1289, 1302, 1315, 1328, 1341, 1364], 175) := by decide +kernel
theorem lw_s6 {a : Nat} (h : a ≤ 3072) : (nI a - nI 6).toInt = (a : Int) - 6 := by
  by_cases h6 : 6 ≤ a
  · rw [tq_sub_nI h6, nI_toInt (by omega)]
    omega
  · exact (show ∀ a, a < 6 → (nI a - nI 6).toInt = (a : Int) - 6 by decide +kernel) a (by omega)
set_option maxRecDepth 20000 in
theorem lw_step {g : tq_G} {x : tq_X} {k n i : Nat} {I : tq_I} {J : Int64} {w h o c L : Nat} (C : tq_C g mL_law x) (hR : tq_ht x 2048 600000 7302249) (hk : k ≤ 600000) (hn : n ≤ 7302249) (hi : i + 6 ≤ tq_gn g) (hg : tq_gn g ≤ 3072) (v : tw_inv I I w h o c L) (kk : ∀ (I' : tq_I) (J' : Int64) (w' h' o' c' L' : Nat), tw_inv I' I' w' h' o' c' L' → EV g mL_law x k n 1411 [some (.ref 1000), some (.ref 0), some (.ref 117), some (.int (nI i))] [] (tq_SC ++ tq_SR) tq_RR I' J') : EV g mL_law x k n 33 [some (.ref 1000), some (.ref 0), some (.ref 117), some (.int (nI i))] [.int (tq_oX g 0 i &&& nI 63)] (tq_SC ++ tq_SR) tq_RR I J := by
  generalize tq_oX g 0 i &&& nI 63 = s
  by_cases hs : 0 ≤ s.toInt ∧ s.toInt ≤ 39
  · have e := tq_nIN hs.1
    have e2 := tq_NI hs.1
    have hq : tq_N s < 40 := by omega
    rw [e]
    clear e
    generalize tq_N s = q at hq
    rcases (show q = 0 ∨ q = 1 ∨ q = 2 ∨ q = 3 ∨ q = 4 ∨ q = 5 ∨ q = 6 ∨ q = 7 ∨ q = 8 ∨ q = 9 ∨ q = 10 ∨ q = 11 ∨ q = 12 ∨ q = 13 ∨ q = 14 ∨ q = 15 ∨ q = 16 ∨ q = 17 ∨ q = 18 ∨ q = 19 ∨ q = 20 ∨ q = 21 ∨ q = 22 ∨ q = 23 ∨ q = 24 ∨ q = 25 ∨ q = 26 ∨ q = 27 ∨ q = 28 ∨ q = 29 ∨ q = 30 ∨ q = 31 ∨ q = 32 ∨ q = 33 ∨ q = 34 ∨ q = 35 ∨ q = 36 ∨ q = 37 ∨ q = 38 ∨ q = 39 by omega) with rfl | rfl | rfl | rfl | rfl | rfl | rfl | rfl | rfl | rfl | rfl | rfl | rfl | rfl | rfl | rfl | rfl | rfl | rfl | rfl | rfl | rfl | rfl | rfl | rfl | rfl | rfl | rfl | rfl | rfl | rfl | rfl | rfl | rfl | rfl | rfl | rfl | rfl | rfl | rfl
    · exact EV_tableIn (off := 175) (tgt := 208) C d_sw (by decide) (by decide) (by decide +kernel) (by decide) (lw_c0 C hR hk hn hi hg v kk)
    · exact EV_tableIn (off := 218) (tgt := 251) C d_sw (by decide) (by decide) (by decide +kernel) (by decide) (lw_c1 C hR hk hn hi hg v kk)
    · exact EV_tableIn (off := 241) (tgt := 274) C d_sw (by decide) (by decide) (by decide +kernel) (by decide) (lw_c2 C hR hk hn hi hg v kk)
    · exact EV_tableIn (off := 284) (tgt := 317) C d_sw (by decide) (by decide) (by decide +kernel) (by decide) (lw_c3 C hR hk hn hi hg v kk)
    · exact EV_tableIn (off := 317) (tgt := 350) C d_sw (by decide) (by decide) (by decide +kernel) (by decide) (lw_c4 C hR hk hn hi hg v kk)
    · exact EV_tableIn (off := 380) (tgt := 413) C d_sw (by decide) (by decide) (by decide +kernel) (by decide) (lw_c5 C hR hk hn hi hg v kk)
    · exact EV_tableIn (off := 423) (tgt := 456) C d_sw (by decide) (by decide) (by decide +kernel) (by decide) (lw_c6 C hR hk hn hi hg v kk)
    · exact EV_tableIn (off := 466) (tgt := 499) C d_sw (by decide) (by decide) (by decide +kernel) (by decide) (lw_c7 C hR hk hn hi hg v kk)
    · exact EV_tableIn (off := 489) (tgt := 522) C d_sw (by decide) (by decide) (by decide +kernel) (by decide) (lw_c8 C hR hk hn hi hg v kk)
    · exact EV_tableIn (off := 548) (tgt := 581) C d_sw (by decide) (by decide) (by decide +kernel) (by decide) (lw_c9 C hR hk hn hi hg v kk)
    · exact EV_tableIn (off := 581) (tgt := 614) C d_sw (by decide) (by decide) (by decide +kernel) (by decide) (lw_c10 C hR hk hn hi hg v kk)
    · exact EV_tableIn (off := 614) (tgt := 647) C d_sw (by decide) (by decide) (by decide +kernel) (by decide) (lw_c11 C hR hk hn hi hg v kk)
    · exact EV_tableIn (off := 647) (tgt := 680) C d_sw (by decide) (by decide) (by decide +kernel) (by decide) (lw_c12 C hR hk hn hi hg v kk)
    · exact EV_tableIn (off := 680) (tgt := 713) C d_sw (by decide) (by decide) (by decide +kernel) (by decide) (lw_c13 C hR hk hn hi hg v kk)
    · exact EV_tableIn (off := 703) (tgt := 736) C d_sw (by decide) (by decide) (by decide +kernel) (by decide) (lw_c14 C hR hk hn hi hg v kk)
    · exact EV_tableIn (off := 736) (tgt := 769) C d_sw (by decide) (by decide) (by decide +kernel) (by decide) (lw_c15 C hR hk hn hi hg v kk)
    · exact EV_tableIn (off := 769) (tgt := 802) C d_sw (by decide) (by decide) (by decide +kernel) (by decide) (lw_c16 C hR hk hn hi hg v kk)
    · exact EV_tableIn (off := 792) (tgt := 825) C d_sw (by decide) (by decide) (by decide +kernel) (by decide) (lw_c17 C hR hk hn hi hg v kk)
    · exact EV_tableIn (off := 831) (tgt := 864) C d_sw (by decide) (by decide) (by decide +kernel) (by decide) (lw_c18 C hR hk hn hi hg v kk)
    · exact EV_tableIn (off := 864) (tgt := 897) C d_sw (by decide) (by decide) (by decide +kernel) (by decide) (lw_c19 C hR hk hn hi hg v kk)
    · exact EV_tableIn (off := 897) (tgt := 930) C d_sw (by decide) (by decide) (by decide +kernel) (by decide) (lw_c20 C hR hk hn hi hg v kk)
    · exact EV_tableIn (off := 930) (tgt := 963) C d_sw (by decide) (by decide) (by decide +kernel) (by decide) (lw_c21 C hR hk hn hi hg v kk)
    · exact EV_tableIn (off := 983) (tgt := 1016) C d_sw (by decide) (by decide) (by decide +kernel) (by decide) (lw_c22 C hR hk hn hi hg v kk)
    · exact EV_tableIn (off := 1016) (tgt := 1049) C d_sw (by decide) (by decide) (by decide +kernel) (by decide) (lw_c23 C hR hk hn hi hg v kk)
    · exact EV_tableIn (off := 1069) (tgt := 1102) C d_sw (by decide) (by decide) (by decide +kernel) (by decide) (lw_c24 C hR hk hn hi hg v kk)
    · exact EV_tableIn (off := 1102) (tgt := 1135) C d_sw (by decide) (by decide) (by decide +kernel) (by decide) (lw_c25 C hR hk hn hi hg v kk)
    · exact EV_tableIn (off := 1135) (tgt := 1168) C d_sw (by decide) (by decide) (by decide +kernel) (by decide) (lw_c26 C hR hk hn hi hg v kk)
    · exact EV_tableIn (off := 1148) (tgt := 1181) C d_sw (by decide) (by decide) (by decide +kernel) (by decide) (lw_c27 C hR hk hn hi hg v kk)
    · exact EV_tableIn (off := 1161) (tgt := 1194) C d_sw (by decide) (by decide) (by decide +kernel) (by decide) (lw_c28 C hR hk hn hi hg v kk)
    · exact EV_tableIn (off := 1174) (tgt := 1207) C d_sw (by decide) (by decide) (by decide +kernel) (by decide) (lw_c29 C hR hk hn hi hg v kk)
    · exact EV_tableIn (off := 1207) (tgt := 1240) C d_sw (by decide) (by decide) (by decide +kernel) (by decide) (lw_c30 C hR hk hn hi hg v kk)
    · exact EV_tableIn (off := 1220) (tgt := 1253) C d_sw (by decide) (by decide) (by decide +kernel) (by decide) (lw_c31 C hR hk hn hi hg v kk)
    · exact EV_tableIn (off := 1253) (tgt := 1286) C d_sw (by decide) (by decide) (by decide +kernel) (by decide) (lw_c32 C hR hk hn hi hg v kk)
    · exact EV_tableIn (off := 1266) (tgt := 1299) C d_sw (by decide) (by decide) (by decide +kernel) (by decide) (lw_c33 C hR hk hn hi hg v kk)
    · exact EV_tableIn (off := 1289) (tgt := 1322) C d_sw (by decide) (by decide) (by decide +kernel) (by decide) (lw_c34 C hR hk hn hi hg v kk)
    · exact EV_tableIn (off := 1302) (tgt := 1335) C d_sw (by decide) (by decide) (by decide +kernel) (by decide) (lw_c35 C hR hk hn hi hg v kk)
    · exact EV_tableIn (off := 1315) (tgt := 1348) C d_sw (by decide) (by decide) (by decide +kernel) (by decide) (lw_c36 C hR hk hn hi hg v kk)
    · exact EV_tableIn (off := 1328) (tgt := 1361) C d_sw (by decide) (by decide) (by decide +kernel) (by decide) (lw_c37 C hR hk hn hi hg v kk)
    · exact EV_tableIn (off := 1341) (tgt := 1374) C d_sw (by decide) (by decide) (by decide +kernel) (by decide) (lw_c38 C hR hk hn hi hg v kk)
    · exact EV_tableIn (off := 1364) (tgt := 1397) C d_sw (by decide) (by decide) (by decide +kernel) (by decide) (lw_c39 C hR hk hn hi hg v kk)
  · exact EV_tableOut (tgt := 1411) C d_sw (by omega) (by decide) (kk I J w h o c L v)
set_option maxRecDepth 20000 in
theorem lw_loop {g : tq_G} {x : tq_X} {k n : Nat} (C : tq_C g mL_law x) (hR : tq_ht x 2048 600000 7302249) (hk : k ≤ 600000) (hn : n ≤ 7302249) (hg : tq_gn g ≤ 3072) (kend : ∀ (i : Nat) (I : tq_I) (J : Int64), EV g mL_law x k n 1417 [some (.ref 1000), some (.ref 0), some (.ref 117), some (.int (nI i))] [] (tq_SC ++ tq_SR) tq_RR I J) : ∀ (m i : Nat) (I : tq_I) (J : Int64) (w h o c L : Nat), tq_gn g ≤ i + 6 * m → i ≤ 4000 → tw_inv I I w h o c L → EV g mL_law x k n 18 [some (.ref 1000), some (.ref 0), some (.ref 117), some (.int (nI i))] [] (tq_SC ++ tq_SR) tq_RR I J := by
  intro m
  induction m with
  | zero =>
    intro i I J w h o c L hm hi4 v
    refine EV_blk (own := 13) C rfl [(.iload_n 3, 0, 0, 0, 0), (.aload_n 0, 0, 0, 0, 0)] (pc' := 20) (by decide +kernel) (lv' := [some (.ref 1000), some (.ref 0), some (.ref 117), some (.int (nI i))]) (st' := [.ref 1000, .int (nI i)]) (I' := I) (J' := J) rfl ?_
    refine EV_olen (o := 0) (L := tq_gn g) C (by decide +kernel) (by decide) rfl ?_
    refine EV_blk (own := 13) C rfl [(.bipush 6, 0, 0, 0, (nI 6)), (.isub, 0, 0, 0, 0)] (pc' := 24) (by decide +kernel) (lv' := [some (.ref 1000), some (.ref 0), some (.ref 117), some (.int (nI i))]) (st' := [.int ((nI (tq_gn g)) - (nI 6)), .int (nI i)]) (I' := I) (J' := J) rfl ?_
    refine EV_icmp_gt (off := 1393) (tgt := 1417) C (by decide +kernel) (by decide) (fun h1 => kend i I J) (fun h1 => ?_)
    refine absurd ?_ h1
    rw [Int32.lt_iff_toInt_lt, lw_s6 hg, nI_toInt (by omega)]
    omega
  | succ m ih =>
    intro i I J w h o c L hm hi4 v
    refine EV_blk (own := 13) C rfl [(.iload_n 3, 0, 0, 0, 0), (.aload_n 0, 0, 0, 0, 0)] (pc' := 20) (by decide +kernel) (lv' := [some (.ref 1000), some (.ref 0), some (.ref 117), some (.int (nI i))]) (st' := [.ref 1000, .int (nI i)]) (I' := I) (J' := J) rfl ?_
    refine EV_olen (o := 0) (L := tq_gn g) C (by decide +kernel) (by decide) rfl ?_
    refine EV_blk (own := 13) C rfl [(.bipush 6, 0, 0, 0, (nI 6)), (.isub, 0, 0, 0, 0)] (pc' := 24) (by decide +kernel) (lv' := [some (.ref 1000), some (.ref 0), some (.ref 117), some (.int (nI i))]) (st' := [.int ((nI (tq_gn g)) - (nI 6)), .int (nI i)]) (I' := I) (J' := J) rfl ?_
    refine EV_icmp_gt (off := 1393) (tgt := 1417) C (by decide +kernel) (by decide) (fun h1 => kend i I J) (fun h1 => ?_)
    have hi : i + 6 ≤ tq_gn g := by
      rw [Int32.lt_iff_toInt_lt, lw_s6 hg, nI_toInt (by omega)] at h1
      omega
    refine EV_blk (own := 13) C rfl [(.aload_n 0, 0, 0, 0, 0), (.iload_n 3, 0, 0, 0, 0)] (pc' := 29) (by decide +kernel) (lv' := [some (.ref 1000), some (.ref 0), some (.ref 117), some (.int (nI i))]) (st' := [.int (nI i), .ref 1000]) (I' := I) (J' := J) rfl ?_
    refine EV_oald (o := 0) (j := i) C (by decide +kernel) (by decide) (nI_toInt (by omega)) (show i < tq_gn g by omega) ?_
    refine EV_blk (own := 13) C rfl [(.bipush 63, 0, 0, 0, (nI 63)), (.iand, 0, 0, 0, 0)] (pc' := 33) (by decide +kernel) (lv' := [some (.ref 1000), some (.ref 0), some (.ref 117), some (.int (nI i))]) (st' := [.int (tq_oX g 0 i &&& nI 63)]) (I' := I) (J' := J) rfl ?_
    refine lw_step C hR hk hn hi hg v (fun I' J' w' h' o' c' L' v' => ?_)
    refine EV_blk (own := 13) C rfl [(.iinc 3 6, 0, 0, 0, (nI 6)), (.goto (-1396), 0, 0, 0, 0)] (pc' := 18) (by decide +kernel) (lv' := [some (.ref 1000), some (.ref 0), some (.ref 117), some (.int ((nI i) + (nI 6)))]) (st' := []) (I' := I') (J' := J') rfl ?_
    rw [nI_add]
    exact ih (i + 6) I' J' w' h' o' c' L' (by omega) (by omega) v'
set_option maxRecDepth 20000 in
theorem lw_e3 {g : tq_G} {x : tq_X} (C : tq_C g mL_law x) (hR : tq_ht x 2048 600000 7302249) (hg : tq_gn g ≤ 3072) {k n : Nat} (hk : k ≤ 600000) (hn : n ≤ 7302249) (kend : ∀ (i : Nat) (I : tq_I) (J : Int64), EV g mL_law x k n 1417 [some (.ref 1000), some (.ref 0), some (.ref 117), some (.int (nI i))] [] (tq_SC ++ tq_SR) tq_RR I J) {I1 I2 I3 I4 : tq_I} (hI1 : ∀ a j, a < 117 → I1 a j = tx_I0 a j) (hI3 : I3 = I_X8_startMap I1 4 4 (nI 0)) (h1 : ∀ a j, a < 117 → I2 a j = I3 a j) (h2 : ∀ a j, 117 ≤ a → a < 131 → I2 a j = tx_TM a j) (hI4 : I4 = I_X12_begins (tq_it f_mi1 6 0 I2) 4 4) : EV g mL_law x k n 15 [some (.ref 1000), some (.ref 0), none, none] [.ref 117] (tq_SC ++ tq_SR) tq_RR I4 0 := by
  refine EV_blk (own := 13) C rfl [(.astore_n 2, 0, 0, 0, 0), (.iconst 0, 0, 0, 0, (nI 0)), (.istore_n 3, 0, 0, 0, 0)] (pc' := 18) (by decide +kernel) (lv' := [some (.ref 1000), some (.ref 0), some (.ref 117), some (.int (nI 0))]) (st' := []) (I' := I4) (J' := 0) rfl ?_
  have inv : tw_inv I4 I4 4 4 0 0 0 := by
    refine tw_fresh hI1 h2 (fun a j ha => ?_) (fun a j _ _ => by rw [hI4])
    rw [hI4, fr_X12_begins _ _ _ (by omega), (tx_mi1 I2).1 a (by omega), h1 a j ha, hI3]
  exact lw_loop C hR hk hn hg kend 600 0 I4 0 4 4 0 0 0 (by omega) (by omega) inv
set_option maxRecDepth 20000 in
theorem lw_e2 {g : tq_G} {x : tq_X} (C : tq_C g mL_law x) (hR : tq_ht x 2048 600000 7302249) (hg : tq_gn g ≤ 3072) {k n : Nat} (hk : k + 1 + 13 ≤ 600000) (hn : n + tq_nf 12 + 10245 ≤ 7302249) (kend : ∀ (i : Nat) (I : tq_I) (J : Int64), EV g mL_law x (k + 1 + 13) (n + tq_nf 12 + 10245) 1417 [some (.ref 1000), some (.ref 0), some (.ref 117), some (.int (nI i))] [] (tq_SC ++ tq_SR) tq_RR I J) {I1 I3 : tq_I} (hI1 : ∀ a j, a < 117 → I1 a j = tx_I0 a j) (hI3 : I3 = I_X8_startMap I1 4 4 (nI 0)) : EV g mL_law x k n 8 [some (.ref 1000), some (.ref 0), none, none] [] (tx_A.take 117) tq_RR I3 0 := by
  refine EV_new (own := 13) (idx := 10) (c := 12) (pl := 873) C hR rfl (by decide) (by decide) rfl (by rw [tx_len (by decide)]; decide) (by decide +kernel) (by omega) (by omega) ?_
  rw [tx_len (by decide), tx_snoc (n := 117) (s := .inl 12) (by decide +kernel)]
  refine EV_dup0 C (by decide +kernel) ?_
  refine EV_callI (own := 13) (idx := 12) (μ' := mX12_init) (rest := [.ref 117]) (av := []) (b := 117) C hR rfl (Or.inl ⟨875, by decide⟩) kX12_init sX12_init rfl (c_X12_init g _ _ (fun j => by simp [tq_zR, tq_z]) (fun a j ha => by have hne : a ≠ 117 := (by omega); simp [tq_zR, hne])) (by decide +kernel) rfl (by decide) (Nat.le_of_ble_eq_true rfl) ⟨hk, hn⟩ rfl ?_
  intro r sh' R' I' J' hq
  obtain ⟨q1, q2, q3, q4, I2, h1, h2, q5⟩ := hq
  subst q1 q2 q3 q4
  exact lw_e3 C hR hg hk hn kend hI1 hI3 (fun a j ha => by rw [h1 a j ha]; have hne : a ≠ 117 := (by omega); simp [tq_z, hne]) h2 q5
set_option maxRecDepth 20000 in
theorem lw_entry {g : tq_G} {x : tq_X} (C : tq_C g mL_law x) (hR : tq_ht x 2048 600000 7302249) (hg : tq_gn g ≤ 3072) (kend : ∀ (k n i : Nat) (I : tq_I) (J : Int64), k ≤ 600000 → n ≤ 7302249 → EV g mL_law x k n 1417 [some (.ref 1000), some (.ref 0), some (.ref 117), some (.int (nI i))] [] (tq_SC ++ tq_SR) tq_RR I J) : EV g mL_law x 0 0 0 [some (.ref 1000), none, none, none] [] (tx_A.take 0) (fun _ _ => none) (fun _ _ => 0) 0 := by
  have n11 : tq_nf 11 = 8 := by decide +kernel
  have n12 : tq_nf 12 = 26 := by decide +kernel
  refine EV_new (own := 13) (idx := 7) (c := 11) (pl := 75) C hR rfl (by decide) (by decide) rfl (by rw [tx_len (by decide)]; decide) (by decide +kernel) (by omega) (by omega) ?_
  rw [tx_len (by decide), tx_snoc (n := 0) (s := .inl 11) (by decide +kernel)]
  refine EV_dup0 C (by decide +kernel) ?_
  refine EV_callI (own := 13) (idx := 9) (μ' := mX11_init) (rest := [.ref 0]) (av := []) (b := 0) C hR rfl (Or.inl ⟨77, by decide⟩) kX11_init sX11_init rfl (c_X11_init g _ _ (fun j => by simp [tq_zR, tq_z])) (by decide +kernel) rfl (by decide) (Nat.le_of_ble_eq_true rfl) ⟨by omega, by omega⟩ rfl ?_
  intro r sh' R' I' J' hq
  obtain ⟨q1, q2, q3, q4, I1, hI1, q5⟩ := hq
  subst q1 q2 q3 q4
  refine EV_blk (own := 13) C rfl [(.astore_n 1, 0, 0, 0, 0)] (pc' := 8) (by decide +kernel) (lv' := [some (.ref 1000), some (.ref 0), none, none]) (st' := []) (I' := I') (J' := 0) rfl ?_
  exact lw_e2 C hR hg (by omega) (by omega) (fun i I J => kend _ _ i I J (by omega) (by omega)) hI1 q5
