/-! the law, calls 32 to 39 -/
set_option maxRecDepth 20000 in
theorem lw_c32 {g : tq_G} {x : tq_X} {k n i : Nat} {I : tq_I} {J : Int64} {w h o c L : Nat} (C : tq_C g mL_law x) (hR : tq_ht x 2048 600000 7302249) (hk : k ≤ 600000) (hn : n ≤ 7302249) (hi : i + 6 ≤ tq_gn g) (hg : tq_gn g ≤ 3072) (v : tw_inv I I w h o c L) (kk : ∀ (I' : tq_I) (J' : Int64) (w' h' o' c' L' : Nat), tw_inv I' I' w' h' o' c' L' → EV g mL_law x k n 1411 [some (.ref 1000), some (.ref 0), some (.ref 117), some (.int (nI i))] [] (tq_SC ++ tq_SR) tq_RR I' J') : EV g mL_law x k n 1286 [some (.ref 1000), some (.ref 0), some (.ref 117), some (.int (nI i))] [] (tq_SC ++ tq_SR) tq_RR I J := by
  refine EV_blk (own := 13) C rfl [(.aload_n 1, 0, 0, 0, 0)] (pc' := 1287) (by decide +kernel) (lv' := [some (.ref 1000), some (.ref 0), some (.ref 117), some (.int (nI i))]) (st' := [.ref 0]) (I' := I) (J' := J) rfl ?_
  refine EV_cV (own := 13) (idx := 149) (μ' := mX11_undo) (b := 0) (cb := 11) (av := []) (rest := []) C hR rfl (Or.inl ⟨782, by decide⟩) kX11_undo sX11_undo (c_X11_undo g tq_SR I J w h o c L v.ok) rfl rfl (by decide +kernel) rfl (by decide) (Nat.le_of_ble_eq_true rfl) rfl ⟨hk, hn⟩ ?_
  have k1 : tw_inv I (I_X11_undo I w h o c L) w h o c L := v.cong (fun _ _ _ => rfl) (fun cz hz j => fz_undo I w h o c L hz j)
  obtain ⟨e, w2, h2, c2, k2⟩ := tw_undo k1
  have fI : ∀ cz, 117 ≤ cz → ∀ j, (I_X11_undo I w h o c L) cz j = I cz j := fun cz hz j => fz_undo I w h o c L hz j
  generalize (I_X11_undo I w h o c L) = I1 at *
  generalize hre : r_X11_undo I w h o c L = re at *
  refine EV_blk (own := 13) C rfl [(.aload_n 2, 0, 0, 0, 0)] (pc' := 1291) (by decide +kernel) (lv' := [some (.ref 1000), some (.ref 0), some (.ref 117), some (.int (nI i))]) (st' := [.ref 117, .int re]) (I' := I1) (J' := J) rfl ?_
  refine EV_cV (own := 13) (idx := 152) (μ' := mX12_undo) (b := 117) (cb := 12) (av := []) (rest := [.int re]) C hR rfl (Or.inl ⟨1221, by decide⟩) kX12_undo sX12_undo (c_X12_undo g I1 J c k1.hc.2.2.1 k1.hc.2.2.2.2) rfl rfl (by decide +kernel) rfl (by decide) (Nat.le_of_ble_eq_true rfl) rfl ⟨hk, hn⟩ ?_
  refine EV_icmp_eq (off := 117) (tgt := 1411) C (by decide +kernel) (by decide) (fun h1 => ?_) (fun h1 => absurd e h1)
  exact kk _ _ _ _ _ _ _ (k2.cong (fun cz hz j => fr_X12_undo I1 c (by omega) j) (fun _ _ _ => rfl))
set_option maxRecDepth 20000 in
theorem lw_c33 {g : tq_G} {x : tq_X} {k n i : Nat} {I : tq_I} {J : Int64} {w h o c L : Nat} (C : tq_C g mL_law x) (hR : tq_ht x 2048 600000 7302249) (hk : k ≤ 600000) (hn : n ≤ 7302249) (hi : i + 6 ≤ tq_gn g) (hg : tq_gn g ≤ 3072) (v : tw_inv I I w h o c L) (kk : ∀ (I' : tq_I) (J' : Int64) (w' h' o' c' L' : Nat), tw_inv I' I' w' h' o' c' L' → EV g mL_law x k n 1411 [some (.ref 1000), some (.ref 0), some (.ref 117), some (.int (nI i))] [] (tq_SC ++ tq_SR) tq_RR I' J') : EV g mL_law x k n 1299 [some (.ref 1000), some (.ref 0), some (.ref 117), some (.int (nI i))] [] (tq_SC ++ tq_SR) tq_RR I J := by
  refine EV_blk (own := 13) C rfl [(.aload_n 1, 0, 0, 0, 0), (.aload_n 0, 0, 0, 0, 0), (.iload_n 3, 0, 0, 0, 0), (.iconst 1, 0, 0, 0, (nI 1)), (.iadd, 0, 0, 0, 0)] (pc' := 1304) (by decide +kernel) (lv' := [some (.ref 1000), some (.ref 0), some (.ref 117), some (.int (nI i))]) (st' := [.int ((nI i) + (nI 1)), .ref 1000, .ref 0]) (I' := I) (J' := J) rfl ?_
  refine EV_oald (o := 0) (j := i + 1) C (by decide +kernel) (by decide) (by rw [nI_add, nI_toInt (by omega)]) (show i + 1 < tq_gn g by omega) ?_
  refine EV_cV (own := 13) (idx := 153) (μ' := mX11_type) (b := 0) (cb := 11) (av := [.int (tq_oX g 0 (i + 1))]) (rest := []) C hR rfl (Or.inl ⟨790, by decide⟩) kX11_type sX11_type (c_X11_type g tq_SR I J (tq_oX g 0 (i + 1)) w h o c L v.ok) rfl rfl (by decide +kernel) rfl (by decide) (Nat.le_of_ble_eq_true rfl) rfl ⟨hk, hn⟩ ?_
  have k1 : tw_inv I (I_X11_type I (tq_oX g 0 (i + 1)) w h o c L) w h o c L := v.cong (fun _ _ _ => rfl) (fun cz hz j => fz_type I (tq_oX g 0 (i + 1)) w h o c L hz j)
  obtain ⟨e, L2, k2⟩ := tw_type k1 (tq_oX g 0 (i + 1))
  have fI : ∀ cz, 117 ≤ cz → ∀ j, (I_X11_type I (tq_oX g 0 (i + 1)) w h o c L) cz j = I cz j := fun cz hz j => fz_type I (tq_oX g 0 (i + 1)) w h o c L hz j
  generalize (I_X11_type I (tq_oX g 0 (i + 1)) w h o c L) = I1 at *
  generalize hre : r_X11_type I (tq_oX g 0 (i + 1)) w h o c L = re at *
  refine EV_blk (own := 13) C rfl [(.aload_n 2, 0, 0, 0, 0), (.aload_n 0, 0, 0, 0, 0), (.iload_n 3, 0, 0, 0, 0), (.iconst 1, 0, 0, 0, (nI 1)), (.iadd, 0, 0, 0, 0)] (pc' := 1313) (by decide +kernel) (lv' := [some (.ref 1000), some (.ref 0), some (.ref 117), some (.int (nI i))]) (st' := [.int ((nI i) + (nI 1)), .ref 1000, .ref 117, .int re]) (I' := I1) (J' := J) rfl ?_
  refine EV_oald (o := 0) (j := i + 1) C (by decide +kernel) (by decide) (by rw [nI_add, nI_toInt (by omega)]) (show i + 1 < tq_gn g by omega) ?_
  refine EV_cV (own := 13) (idx := 156) (μ' := mX12_type) (b := 117) (cb := 12) (av := [.int (tq_oX g 0 (i + 1))]) (rest := [.int re]) C hR rfl (Or.inl ⟨1225, by decide⟩) kX12_type sX12_type (c_X12_type g I1 J (tq_oX g 0 (i + 1)) L k1.tx.2.1 k1.tx.2.2.1) rfl rfl (by decide +kernel) rfl (by decide) (Nat.le_of_ble_eq_true rfl) rfl ⟨hk, hn⟩ ?_
  refine EV_icmp_eq (off := 94) (tgt := 1411) C (by decide +kernel) (by decide) (fun h1 => ?_) (fun h1 => absurd e h1)
  exact kk _ _ _ _ _ _ _ (k2.cong (fun cz hz j => fr_X12_type I1 (tq_oX g 0 (i + 1)) L (by omega) j) (fun _ _ _ => rfl))
set_option maxRecDepth 20000 in
theorem lw_c34 {g : tq_G} {x : tq_X} {k n i : Nat} {I : tq_I} {J : Int64} {w h o c L : Nat} (C : tq_C g mL_law x) (hR : tq_ht x 2048 600000 7302249) (hk : k ≤ 600000) (hn : n ≤ 7302249) (hi : i + 6 ≤ tq_gn g) (hg : tq_gn g ≤ 3072) (v : tw_inv I I w h o c L) (kk : ∀ (I' : tq_I) (J' : Int64) (w' h' o' c' L' : Nat), tw_inv I' I' w' h' o' c' L' → EV g mL_law x k n 1411 [some (.ref 1000), some (.ref 0), some (.ref 117), some (.int (nI i))] [] (tq_SC ++ tq_SR) tq_RR I' J') : EV g mL_law x k n 1322 [some (.ref 1000), some (.ref 0), some (.ref 117), some (.int (nI i))] [] (tq_SC ++ tq_SR) tq_RR I J := by
  refine EV_blk (own := 13) C rfl [(.aload_n 1, 0, 0, 0, 0)] (pc' := 1323) (by decide +kernel) (lv' := [some (.ref 1000), some (.ref 0), some (.ref 117), some (.int (nI i))]) (st' := [.ref 0]) (I' := I) (J' := J) rfl ?_
  refine EV_cV (own := 13) (idx := 157) (μ' := mX11_clearText) (b := 0) (cb := 11) (av := []) (rest := []) C hR rfl (Or.inl ⟨798, by decide⟩) kX11_clearText sX11_clearText (c_X11_clearText g tq_SR I J w h o c L v.ok) rfl rfl (by decide +kernel) rfl (by decide) (Nat.le_of_ble_eq_true rfl) rfl ⟨hk, hn⟩ ?_
  have k1 : tw_inv I (I_X11_clearText I w h o c L) w h o c L := v.cong (fun _ _ _ => rfl) (fun cz hz j => fz_clearText I w h o c L hz j)
  obtain ⟨e, L2, k2⟩ := tw_clearText k1
  have fI : ∀ cz, 117 ≤ cz → ∀ j, (I_X11_clearText I w h o c L) cz j = I cz j := fun cz hz j => fz_clearText I w h o c L hz j
  generalize (I_X11_clearText I w h o c L) = I1 at *
  generalize hre : r_X11_clearText I w h o c L = re at *
  refine EV_blk (own := 13) C rfl [(.aload_n 2, 0, 0, 0, 0)] (pc' := 1327) (by decide +kernel) (lv' := [some (.ref 1000), some (.ref 0), some (.ref 117), some (.int (nI i))]) (st' := [.ref 117, .int re]) (I' := I1) (J' := J) rfl ?_
  refine EV_cV (own := 13) (idx := 160) (μ' := mX12_clearText) (b := 117) (cb := 12) (av := []) (rest := [.int re]) C hR rfl (Or.inl ⟨1229, by decide⟩) kX12_clearText sX12_clearText (c_X12_clearText g I1 J) rfl rfl (by decide +kernel) rfl (by decide) (Nat.le_of_ble_eq_true rfl) rfl ⟨hk, hn⟩ ?_
  refine EV_icmp_eq (off := 81) (tgt := 1411) C (by decide +kernel) (by decide) (fun h1 => ?_) (fun h1 => absurd e h1)
  exact kk _ _ _ _ _ _ _ (k2.cong (fun cz hz j => fr_X12_clearText I1 (by omega) j) (fun _ _ _ => rfl))
set_option maxRecDepth 20000 in
theorem lw_c35 {g : tq_G} {x : tq_X} {k n i : Nat} {I : tq_I} {J : Int64} {w h o c L : Nat} (C : tq_C g mL_law x) (hR : tq_ht x 2048 600000 7302249) (hk : k ≤ 600000) (hn : n ≤ 7302249) (hi : i + 6 ≤ tq_gn g) (hg : tq_gn g ≤ 3072) (v : tw_inv I I w h o c L) (kk : ∀ (I' : tq_I) (J' : Int64) (w' h' o' c' L' : Nat), tw_inv I' I' w' h' o' c' L' → EV g mL_law x k n 1411 [some (.ref 1000), some (.ref 0), some (.ref 117), some (.int (nI i))] [] (tq_SC ++ tq_SR) tq_RR I' J') : EV g mL_law x k n 1335 [some (.ref 1000), some (.ref 0), some (.ref 117), some (.int (nI i))] [] (tq_SC ++ tq_SR) tq_RR I J := by
  refine EV_blk (own := 13) C rfl [(.aload_n 1, 0, 0, 0, 0)] (pc' := 1336) (by decide +kernel) (lv' := [some (.ref 1000), some (.ref 0), some (.ref 117), some (.int (nI i))]) (st' := [.ref 0]) (I' := I) (J' := J) rfl ?_
  refine EV_cV (own := 13) (idx := 161) (μ' := mX11_textFault) (b := 0) (cb := 11) (av := []) (rest := []) C hR rfl (Or.inl ⟨802, by decide⟩) kX11_textFault sX11_textFault (c_X11_textFault g tq_SR I J w h o c L v.ok) rfl rfl (by decide +kernel) rfl (by decide) (Nat.le_of_ble_eq_true rfl) rfl ⟨hk, hn⟩ ?_
  have k1 : tw_inv I (I_X11_textFault I w h o c L) w h o c L := v.cong (fun _ _ _ => rfl) (fun cz hz j => fz_textFault I w h o c L hz j)
  obtain ⟨e, k2⟩ := tw_textFault k1
  have fI : ∀ cz, 117 ≤ cz → ∀ j, (I_X11_textFault I w h o c L) cz j = I cz j := fun cz hz j => fz_textFault I w h o c L hz j
  generalize (I_X11_textFault I w h o c L) = I1 at *
  generalize hre : r_X11_textFault I w h o c L = re at *
  refine EV_blk (own := 13) C rfl [(.aload_n 2, 0, 0, 0, 0)] (pc' := 1340) (by decide +kernel) (lv' := [some (.ref 1000), some (.ref 0), some (.ref 117), some (.int (nI i))]) (st' := [.ref 117, .int re]) (I' := I1) (J' := J) rfl ?_
  refine EV_cV (own := 13) (idx := 164) (μ' := mX12_textFault) (b := 117) (cb := 12) (av := []) (rest := [.int re]) C hR rfl (Or.inl ⟨1233, by decide⟩) kX12_textFault sX12_textFault (c_X12_textFault g I1 J L k1.rdy) rfl rfl (by decide +kernel) rfl (by decide) (Nat.le_of_ble_eq_true rfl) rfl ⟨hk, hn⟩ ?_
  refine EV_icmp_eq (off := 68) (tgt := 1411) C (by decide +kernel) (by decide) (fun h1 => ?_) (fun h1 => absurd e h1)
  exact kk _ _ _ _ _ _ _ (k2.cong (fun cz hz j => fr_X12_textFault I1 L (by omega) j) (fun _ _ _ => rfl))
set_option maxRecDepth 20000 in
theorem lw_c36 {g : tq_G} {x : tq_X} {k n i : Nat} {I : tq_I} {J : Int64} {w h o c L : Nat} (C : tq_C g mL_law x) (hR : tq_ht x 2048 600000 7302249) (hk : k ≤ 600000) (hn : n ≤ 7302249) (hi : i + 6 ≤ tq_gn g) (hg : tq_gn g ≤ 3072) (v : tw_inv I I w h o c L) (kk : ∀ (I' : tq_I) (J' : Int64) (w' h' o' c' L' : Nat), tw_inv I' I' w' h' o' c' L' → EV g mL_law x k n 1411 [some (.ref 1000), some (.ref 0), some (.ref 117), some (.int (nI i))] [] (tq_SC ++ tq_SR) tq_RR I' J') : EV g mL_law x k n 1348 [some (.ref 1000), some (.ref 0), some (.ref 117), some (.int (nI i))] [] (tq_SC ++ tq_SR) tq_RR I J := by
  refine EV_blk (own := 13) C rfl [(.aload_n 1, 0, 0, 0, 0)] (pc' := 1349) (by decide +kernel) (lv' := [some (.ref 1000), some (.ref 0), some (.ref 117), some (.int (nI i))]) (st' := [.ref 0]) (I' := I) (J' := J) rfl ?_
  refine EV_cV (own := 13) (idx := 165) (μ' := mX11_load) (b := 0) (cb := 11) (av := []) (rest := []) C hR rfl (Or.inl ⟨837, by decide⟩) kX11_load sX11_load (c_X11_load g tq_SR I J w h o c L v.ok v.mi.2.1) rfl rfl (by decide +kernel) rfl (by decide) (Nat.le_of_ble_eq_true rfl) rfl ⟨hk, hn⟩ ?_
  have k1 : tw_inv I (I_X11_load I w h o c L) w h o c L := v.cong (fun _ _ _ => rfl) (fun cz hz j => fz_load I w h o c L hz j)
  obtain ⟨e, w2, h2, o2, c2, k2⟩ := tw_load k1
  have fI : ∀ cz, 117 ≤ cz → ∀ j, (I_X11_load I w h o c L) cz j = I cz j := fun cz hz j => fz_load I w h o c L hz j
  generalize (I_X11_load I w h o c L) = I1 at *
  generalize hre : r_X11_load I w h o c L = re at *
  refine EV_blk (own := 13) C rfl [(.aload_n 2, 0, 0, 0, 0)] (pc' := 1353) (by decide +kernel) (lv' := [some (.ref 1000), some (.ref 0), some (.ref 117), some (.int (nI i))]) (st' := [.ref 117, .int re]) (I' := I1) (J' := J) rfl ?_
  refine EV_cV (own := 13) (idx := 168) (μ' := mX12_load) (b := 117) (cb := 12) (av := []) (rest := [.int re]) C hR rfl (Or.inl ⟨1257, by decide⟩) kX12_load sX12_load (c_X12_load g I1 J L c k1.rdy k1.hc.2.2.1 k1.hc.2.2.2.2) rfl rfl (by decide +kernel) rfl (by decide) (Nat.le_of_ble_eq_true rfl) rfl ⟨hk, hn⟩ ?_
  refine EV_icmp_eq (off := 55) (tgt := 1411) C (by decide +kernel) (by decide) (fun h1 => ?_) (fun h1 => absurd e h1)
  exact kk _ _ _ _ _ _ _ (k2.cong (fun cz hz j => fr_X12_load I1 L c (by omega) j) (fun _ _ _ => rfl))
set_option maxRecDepth 20000 in
theorem lw_c37 {g : tq_G} {x : tq_X} {k n i : Nat} {I : tq_I} {J : Int64} {w h o c L : Nat} (C : tq_C g mL_law x) (hR : tq_ht x 2048 600000 7302249) (hk : k ≤ 600000) (hn : n ≤ 7302249) (hi : i + 6 ≤ tq_gn g) (hg : tq_gn g ≤ 3072) (v : tw_inv I I w h o c L) (kk : ∀ (I' : tq_I) (J' : Int64) (w' h' o' c' L' : Nat), tw_inv I' I' w' h' o' c' L' → EV g mL_law x k n 1411 [some (.ref 1000), some (.ref 0), some (.ref 117), some (.int (nI i))] [] (tq_SC ++ tq_SR) tq_RR I' J') : EV g mL_law x k n 1361 [some (.ref 1000), some (.ref 0), some (.ref 117), some (.int (nI i))] [] (tq_SC ++ tq_SR) tq_RR I J := by
  refine EV_blk (own := 13) C rfl [(.aload_n 1, 0, 0, 0, 0)] (pc' := 1362) (by decide +kernel) (lv' := [some (.ref 1000), some (.ref 0), some (.ref 117), some (.int (nI i))]) (st' := [.ref 0]) (I' := I) (J' := J) rfl ?_
  refine EV_cV (own := 13) (idx := 169) (μ' := mX11_write) (b := 0) (cb := 11) (av := []) (rest := []) C hR rfl (Or.inl ⟨842, by decide⟩) kX11_write sX11_write (c_X11_write g tq_SR I J w h o c L v.ok) rfl rfl (by decide +kernel) rfl (by decide) (Nat.le_of_ble_eq_true rfl) rfl ⟨hk, hn⟩ ?_
  have k1 : tw_inv I (I_X11_write I w h o c L) w h o c L := v.cong (fun _ _ _ => rfl) (fun cz hz j => fz_write I w h o c L hz j)
  obtain ⟨e, k2⟩ := tw_write k1
  have fI : ∀ cz, 117 ≤ cz → ∀ j, (I_X11_write I w h o c L) cz j = I cz j := fun cz hz j => fz_write I w h o c L hz j
  generalize (I_X11_write I w h o c L) = I1 at *
  generalize hre : r_X11_write I w h o c L = re at *
  refine EV_blk (own := 13) C rfl [(.aload_n 2, 0, 0, 0, 0)] (pc' := 1366) (by decide +kernel) (lv' := [some (.ref 1000), some (.ref 0), some (.ref 117), some (.int (nI i))]) (st' := [.ref 117, .int re]) (I' := I1) (J' := J) rfl ?_
  refine EV_cV (own := 13) (idx := 172) (μ' := mX12_write) (b := 117) (cb := 12) (av := []) (rest := [.int re]) C hR rfl (Or.inl ⟨1261, by decide⟩) kX12_write sX12_write (c_X12_write g I1 J w h k1.twh) rfl rfl (by decide +kernel) rfl (by decide) (Nat.le_of_ble_eq_true rfl) rfl ⟨hk, hn⟩ ?_
  refine EV_icmp_eq (off := 42) (tgt := 1411) C (by decide +kernel) (by decide) (fun h1 => ?_) (fun h1 => absurd e h1)
  exact kk _ _ _ _ _ _ _ (k2.cong (fun cz hz j => fr_X12_write I1 w h (by omega) j) (fun _ _ _ => rfl))
set_option maxRecDepth 20000 in
theorem lw_c38 {g : tq_G} {x : tq_X} {k n i : Nat} {I : tq_I} {J : Int64} {w h o c L : Nat} (C : tq_C g mL_law x) (hR : tq_ht x 2048 600000 7302249) (hk : k ≤ 600000) (hn : n ≤ 7302249) (hi : i + 6 ≤ tq_gn g) (hg : tq_gn g ≤ 3072) (v : tw_inv I I w h o c L) (kk : ∀ (I' : tq_I) (J' : Int64) (w' h' o' c' L' : Nat), tw_inv I' I' w' h' o' c' L' → EV g mL_law x k n 1411 [some (.ref 1000), some (.ref 0), some (.ref 117), some (.int (nI i))] [] (tq_SC ++ tq_SR) tq_RR I' J') : EV g mL_law x k n 1374 [some (.ref 1000), some (.ref 0), some (.ref 117), some (.int (nI i))] [] (tq_SC ++ tq_SR) tq_RR I J := by
  obtain ⟨m, b1, b2, b3, b4⟩ := v.ou
  refine EV_blk (own := 13) C rfl [(.aload_n 1, 0, 0, 0, 0), (.aload_n 0, 0, 0, 0, 0), (.iload_n 3, 0, 0, 0, 0), (.iconst 1, 0, 0, 0, (nI 1)), (.iadd, 0, 0, 0, 0)] (pc' := 1379) (by decide +kernel) (lv' := [some (.ref 1000), some (.ref 0), some (.ref 117), some (.int (nI i))]) (st' := [.int ((nI i) + (nI 1)), .ref 1000, .ref 0]) (I' := I) (J' := J) rfl ?_
  refine EV_oald (o := 0) (j := i + 1) C (by decide +kernel) (by decide) (by rw [nI_add, nI_toInt (by omega)]) (show i + 1 < tq_gn g by omega) ?_
  refine EV_cV (own := 13) (idx := 173) (μ' := mX11_written) (b := 0) (cb := 11) (av := [.int (tq_oX g 0 (i + 1))]) (rest := []) C hR rfl (Or.inl ⟨854, by decide⟩) kX11_written sX11_written (c_X11_written g tq_SR I J (tq_oX g 0 (i + 1)) w h o c L v.ok) rfl rfl (by decide +kernel) rfl (by decide) (Nat.le_of_ble_eq_true rfl) rfl ⟨hk, hn⟩ ?_
  have k1 : tw_inv I I w h o c L := v
  have e := tw_written k1 (tq_oX g 0 (i + 1)) m
  generalize hre : r_X11_written I (tq_oX g 0 (i + 1)) w h o c L = re at *
  refine EV_blk (own := 13) C rfl [(.aload_n 2, 0, 0, 0, 0), (.aload_n 0, 0, 0, 0, 0), (.iload_n 3, 0, 0, 0, 0), (.iconst 1, 0, 0, 0, (nI 1)), (.iadd, 0, 0, 0, 0)] (pc' := 1388) (by decide +kernel) (lv' := [some (.ref 1000), some (.ref 0), some (.ref 117), some (.int (nI i))]) (st' := [.int ((nI i) + (nI 1)), .ref 1000, .ref 117, .int re]) (I' := I) (J' := J) rfl ?_
  refine EV_oald (o := 0) (j := i + 1) C (by decide +kernel) (by decide) (by rw [nI_add, nI_toInt (by omega)]) (show i + 1 < tq_gn g by omega) ?_
  refine EV_cV (own := 13) (idx := 176) (μ' := mX12_written) (b := 117) (cb := 12) (av := [.int (tq_oX g 0 (i + 1))]) (rest := [.int re]) C hR rfl (Or.inl ⟨1273, by decide⟩) kX12_written sX12_written (c_X12_written g I J (tq_oX g 0 (i + 1)) m (by unfold tr_out; rw [b3]; exact ⟨by rw [nI_toInt (by omega)]; omega, by rw [nI_toInt (by omega)]; omega⟩) b1) rfl rfl (by decide +kernel) rfl (by decide) (Nat.le_of_ble_eq_true rfl) rfl ⟨hk, hn⟩ ?_
  refine EV_icmp_eq (off := 19) (tgt := 1411) C (by decide +kernel) (by decide) (fun h1 => ?_) (fun h1 => absurd e h1)
  exact kk _ _ _ _ _ _ _ v
set_option maxRecDepth 20000 in
theorem lw_c39 {g : tq_G} {x : tq_X} {k n i : Nat} {I : tq_I} {J : Int64} {w h o c L : Nat} (C : tq_C g mL_law x) (hR : tq_ht x 2048 600000 7302249) (hk : k ≤ 600000) (hn : n ≤ 7302249) (hi : i + 6 ≤ tq_gn g) (hg : tq_gn g ≤ 3072) (v : tw_inv I I w h o c L) (kk : ∀ (I' : tq_I) (J' : Int64) (w' h' o' c' L' : Nat), tw_inv I' I' w' h' o' c' L' → EV g mL_law x k n 1411 [some (.ref 1000), some (.ref 0), some (.ref 117), some (.int (nI i))] [] (tq_SC ++ tq_SR) tq_RR I' J') : EV g mL_law x k n 1397 [some (.ref 1000), some (.ref 0), some (.ref 117), some (.int (nI i))] [] (tq_SC ++ tq_SR) tq_RR I J := by
  refine EV_blk (own := 13) C rfl [(.aload_n 1, 0, 0, 0, 0)] (pc' := 1398) (by decide +kernel) (lv' := [some (.ref 1000), some (.ref 0), some (.ref 117), some (.int (nI i))]) (st' := [.ref 0]) (I' := I) (J' := J) rfl ?_
  refine EV_cV (own := 13) (idx := 177) (μ' := mX11_digest) (b := 0) (cb := 11) (av := []) (rest := []) C hR rfl (Or.inl ⟨858, by decide⟩) kX11_digest sX11_digest (c_X11_digest g tq_SR I J w h o c L v.ok) rfl rfl (by decide +kernel) rfl (by decide) (Nat.le_of_ble_eq_true rfl) rfl ⟨hk, hn⟩ ?_
  have k1 : tw_inv I (I_X11_digest I w h o c L) w h o c L := v.cong (fun _ _ _ => rfl) (fun cz hz j => fz_digest I w h o c L hz j)
  obtain ⟨e, -, k2⟩ := tw_digest k1 J
  have fI : ∀ cz, 117 ≤ cz → ∀ j, (I_X11_digest I w h o c L) cz j = I cz j := fun cz hz j => fz_digest I w h o c L hz j
  generalize (I_X11_digest I w h o c L) = I1 at *
  generalize hre : r_X11_digest I w h o c L = re at *
  refine EV_blk (own := 13) C rfl [(.aload_n 2, 0, 0, 0, 0)] (pc' := 1402) (by decide +kernel) (lv' := [some (.ref 1000), some (.ref 0), some (.ref 117), some (.int (nI i))]) (st' := [.ref 117, .long re]) (I' := I1) (J' := J) rfl ?_
  refine EV_cV (own := 13) (idx := 181) (μ' := mX12_digest) (b := 117) (cb := 12) (av := []) (rest := [.long re]) C hR rfl (Or.inl ⟨1277, by decide⟩) kX12_digest sX12_digest (c_X12_digest g I1 J w h ⟨k1.bas, k1.pc⟩) rfl rfl (by decide +kernel) rfl (by decide) (Nat.le_of_ble_eq_true rfl) rfl ⟨hk, hn⟩ ?_
  refine EV_lcmp C (by decide +kernel) ?_
  rw [← e, lw_cmp0]
  refine EV_if_eq (off := 5) (tgt := 1411) C (by decide +kernel) (by decide) (fun h1 => ?_) (fun h1 => absurd rfl h1)
  exact kk _ _ _ _ _ _ _ (k2.cong (fun cz hz j => fy_digest I1 J w h hz j) (fun _ _ _ => rfl))
