/-! TerrainTiler's own methods, one after the other -/
theorem tq_swo {v : Int32} {n : Nat} (hn : n < 1000) (h : ∀ k, k ≤ n → ¬ v = nI k) : v.toInt < 0 ∨ (n : Int) < v.toInt := by
  by_cases h0 : v.toInt < 0
  · exact Or.inl h0
  · right
    have e := tq_nIN (show 0 ≤ v.toInt by omega)
    have e2 := tq_NI (show 0 ≤ v.toInt by omega)
    by_cases hk : tq_N v ≤ n
    · exact absurd e (h _ hk)
    · omega
theorem tq_b10 {p : Prop} [Decidable p] (h : ¬ tq_b p = 0) : p := tq_b1.mp (tq_b01.resolve_left h)
def r_X11_corner (I : tq_I) (x y : Int32) (w h o c L : Nat) : Int32 := (if (tq_b (tq_corner I x y)) = 0 then (-2) else (I 3 ((tq_N y) * 11 + (tq_N x))))
set_option maxRecDepth 20000 in
theorem c_X11_corner (g : tq_G) (rest : List tq_S) (I : tq_I) (J : Int64) (x y : Int32) (w h o c L : Nat) (k : tq_ok I w h o c L) : CT g mX11_corner 2 0 0 [.ref 0, .int x, .int y] (tq_SC ++ rest) tq_RR I J (tq_ret (tq_SC ++ rest) tq_RR (some (.int (r_X11_corner I x y w h o c L))) I J) := by
  refine CT.ret kX11_corner (Nat.le_of_ble_eq_true rfl) (fun x0 C hR hZ => ?_)
  refine EV_en (lv' := [some (.ref 0), some (.int x), some (.int y)]) 0 rfl ?_
  refine EV_blk (own := 11) C rfl [(.aload_n 0, 0, 0, 0, 0), (.getfield 12, 11, 0, 368, 0), (.getfield 77, 8, 0, 193, 0), (.iload_n 1, 0, 0, 0, 0), (.iload_n 2, 0, 0, 0, 0)] (pc' := 9) (by decide +kernel) (lv' := [some (.ref 0), some (.int x), some (.int y)]) (st' := [.int y, .int x, .ref 2]) (I' := I) (J' := J) rfl ?_
  refine EV_cV (own := 11) (idx := 94) (μ' := mX3_isCorner) (b := 2) (cb := 3) (av := [.int x, .int y]) (rest := []) C hR rfl (Or.inl ⟨450, by decide⟩) kX3_isCorner sX3_isCorner (c_X3_isCorner g rest I J x y ) rfl rfl (by decide +kernel) rfl (by decide) (Nat.le_of_ble_eq_true rfl) rfl ⟨Nat.zero_le _, Nat.zero_le _⟩ ?_
  refine EV_if_eq (off := 18) (tgt := 30) C (by decide +kernel) (by decide) (fun h1 => ?_) (fun h1 => ?_)
  · skip
    refine EV_blk (own := 11) C rfl [(.bipush (-2), 0, 0, 0, (-2))] (pc' := 32) (by decide +kernel) (lv' := [some (.ref 0), some (.int x), some (.int y)]) (st' := [.int (-2)]) (I' := I) (J' := J) rfl ?_
    exact EV_iret C hZ rfl (by decide +kernel) (Nat.le_refl _) (Nat.le_refl _) ⟨tq_some (by simp only [r_X11_corner, if_pos h1]), rfl, rfl, rfl, rfl⟩
  · skip
    have h0 := tq_b10 h1
    have hxy := k.corner h0
    refine EV_lve (lv' := [some (.ref 0), some (.int (nI (tq_N x))), some (.int (nI (tq_N y)))]) (by rw [← tq_nIN h0.1, ← tq_nIN h0.2.2.1]) ?_
    refine EV_blk (own := 11) C rfl [(.aload_n 0, 0, 0, 0, 0), (.getfield 12, 11, 0, 368, 0), (.getfield 77, 8, 0, 193, 0), (.iload_n 1, 0, 0, 0, 0), (.iload_n 2, 0, 0, 0, 0)] (pc' := 24) (by decide +kernel) (lv' := [some (.ref 0), some (.int (nI (tq_N x))), some (.int (nI (tq_N y)))]) (st' := [.int (nI (tq_N y)), .int (nI (tq_N x)), .ref 2]) (I' := I) (J' := J) rfl ?_
    refine EV_cV (own := 11) (idx := 98) (μ' := mX3_terrainAt) (b := 2) (cb := 3) (av := [.int (nI (tq_N x)), .int (nI (tq_N y))]) (rest := []) C hR rfl (Or.inl ⟨454, by decide⟩) kX3_terrainAt sX3_terrainAt (c_X3_terrainAt g rest I J (tq_N x) (tq_N y) (by omega) (by omega)) rfl rfl (by decide +kernel) rfl (by decide) (Nat.le_of_ble_eq_true rfl) rfl ⟨Nat.zero_le _, Nat.zero_le _⟩ ?_
    refine EV_blk (own := 11) C rfl [(.goto 5, 0, 0, 0, 0)] (pc' := 32) (by decide +kernel) (lv' := [some (.ref 0), some (.int (nI (tq_N x))), some (.int (nI (tq_N y)))]) (st' := [.int (I 3 ((tq_N y) * 11 + (tq_N x)))]) (I' := I) (J' := J) rfl ?_
    exact EV_iret C hZ rfl (by decide +kernel) (Nat.le_refl _) (Nat.le_refl _) ⟨tq_some (by simp only [r_X11_corner, if_neg h1]), rfl, rfl, rfl, rfl⟩
def r_X11_hasPath (I : tq_I) (x y : Int32) (w h o c L : Nat) : Int32 := (if (tq_b (tq_cell I x y)) = 0 then (-2) else (I 4 ((tq_N y) * 10 + (tq_N x))))
set_option maxRecDepth 20000 in
theorem c_X11_hasPath (g : tq_G) (rest : List tq_S) (I : tq_I) (J : Int64) (x y : Int32) (w h o c L : Nat) (k : tq_ok I w h o c L) : CT g mX11_hasPath 2 0 0 [.ref 0, .int x, .int y] (tq_SC ++ rest) tq_RR I J (tq_ret (tq_SC ++ rest) tq_RR (some (.int (r_X11_hasPath I x y w h o c L))) I J) := by
  refine CT.ret kX11_hasPath (Nat.le_of_ble_eq_true rfl) (fun x0 C hR hZ => ?_)
  refine EV_en (lv' := [some (.ref 0), some (.int x), some (.int y)]) 0 rfl ?_
  refine EV_blk (own := 11) C rfl [(.aload_n 0, 0, 0, 0, 0), (.getfield 12, 11, 0, 368, 0), (.getfield 77, 8, 0, 193, 0), (.iload_n 1, 0, 0, 0, 0), (.iload_n 2, 0, 0, 0, 0)] (pc' := 9) (by decide +kernel) (lv' := [some (.ref 0), some (.int x), some (.int y)]) (st' := [.int y, .int x, .ref 2]) (I' := I) (J' := J) rfl ?_
  refine EV_cV (own := 11) (idx := 153) (μ' := mX3_isCell) (b := 2) (cb := 3) (av := [.int x, .int y]) (rest := []) C hR rfl (Or.inl ⟨543, by decide⟩) kX3_isCell sX3_isCell (c_X3_isCell g rest I J x y ) rfl rfl (by decide +kernel) rfl (by decide) (Nat.le_of_ble_eq_true rfl) rfl ⟨Nat.zero_le _, Nat.zero_le _⟩ ?_
  refine EV_if_eq (off := 18) (tgt := 30) C (by decide +kernel) (by decide) (fun h1 => ?_) (fun h1 => ?_)
  · skip
    refine EV_blk (own := 11) C rfl [(.bipush (-2), 0, 0, 0, (-2))] (pc' := 32) (by decide +kernel) (lv' := [some (.ref 0), some (.int x), some (.int y)]) (st' := [.int (-2)]) (I' := I) (J' := J) rfl ?_
    exact EV_iret C hZ rfl (by decide +kernel) (Nat.le_refl _) (Nat.le_refl _) ⟨tq_some (by simp only [r_X11_hasPath, if_pos h1]), rfl, rfl, rfl, rfl⟩
  · skip
    have h0 := tq_b10 h1
    have hxy := k.cell h0
    refine EV_lve (lv' := [some (.ref 0), some (.int (nI (tq_N x))), some (.int (nI (tq_N y)))]) (by rw [← tq_nIN h0.1, ← tq_nIN h0.2.2.1]) ?_
    refine EV_blk (own := 11) C rfl [(.aload_n 0, 0, 0, 0, 0), (.getfield 12, 11, 0, 368, 0), (.getfield 77, 8, 0, 193, 0), (.iload_n 1, 0, 0, 0, 0), (.iload_n 2, 0, 0, 0, 0)] (pc' := 24) (by decide +kernel) (lv' := [some (.ref 0), some (.int (nI (tq_N x))), some (.int (nI (tq_N y)))]) (st' := [.int (nI (tq_N y)), .int (nI (tq_N x)), .ref 2]) (I' := I) (J' := J) rfl ?_
    refine EV_cV (own := 11) (idx := 156) (μ' := mX3_pathAt) (b := 2) (cb := 3) (av := [.int (nI (tq_N x)), .int (nI (tq_N y))]) (rest := []) C hR rfl (Or.inl ⟨544, by decide⟩) kX3_pathAt sX3_pathAt (c_X3_pathAt g rest I J (tq_N x) (tq_N y) (by omega) (by omega)) rfl rfl (by decide +kernel) rfl (by decide) (Nat.le_of_ble_eq_true rfl) rfl ⟨Nat.zero_le _, Nat.zero_le _⟩ ?_
    refine EV_blk (own := 11) C rfl [(.goto 5, 0, 0, 0, 0)] (pc' := 32) (by decide +kernel) (lv' := [some (.ref 0), some (.int (nI (tq_N x))), some (.int (nI (tq_N y)))]) (st' := [.int (I 4 ((tq_N y) * 10 + (tq_N x)))]) (I' := I) (J' := J) rfl ?_
    exact EV_iret C hZ rfl (by decide +kernel) (Nat.le_refl _) (Nat.le_refl _) ⟨tq_some (by simp only [r_X11_hasPath, if_neg h1]), rfl, rfl, rfl, rfl⟩
def r_X11_pathMask (I : tq_I) (x y : Int32) (w h o c L : Nat) : Int32 := (if (tq_b (tq_cell I x y)) = 0 then (-2) else (if (I 4 ((tq_N y) * 10 + (tq_N x))) = (nI 1) then (r_X3_pathMaskAt I (tq_N x) (tq_N y) (I 5 5)) else (-1)))
set_option maxRecDepth 20000 in
theorem c_X11_pathMask (g : tq_G) (rest : List tq_S) (I : tq_I) (J : Int64) (x y : Int32) (w h o c L : Nat) (k : tq_ok I w h o c L) : CT g mX11_pathMask 3 0 0 [.ref 0, .int x, .int y] (tq_SC ++ rest) tq_RR I J (tq_ret (tq_SC ++ rest) tq_RR (some (.int (r_X11_pathMask I x y w h o c L))) I J) := by
  refine CT.ret kX11_pathMask (Nat.le_of_ble_eq_true rfl) (fun x0 C hR hZ => ?_)
  refine EV_en (lv' := [some (.ref 0), some (.int x), some (.int y)]) 0 rfl ?_
  refine EV_blk (own := 11) C rfl [(.aload_n 0, 0, 0, 0, 0), (.getfield 12, 11, 0, 368, 0), (.getfield 77, 8, 0, 193, 0), (.iload_n 1, 0, 0, 0, 0), (.iload_n 2, 0, 0, 0, 0)] (pc' := 9) (by decide +kernel) (lv' := [some (.ref 0), some (.int x), some (.int y)]) (st' := [.int y, .int x, .ref 2]) (I' := I) (J' := J) rfl ?_
  refine EV_cV (own := 11) (idx := 153) (μ' := mX3_isCell) (b := 2) (cb := 3) (av := [.int x, .int y]) (rest := []) C hR rfl (Or.inl ⟨543, by decide⟩) kX3_isCell sX3_isCell (c_X3_isCell g rest I J x y ) rfl rfl (by decide +kernel) rfl (by decide) (Nat.le_of_ble_eq_true rfl) rfl ⟨Nat.zero_le _, Nat.zero_le _⟩ ?_
  refine EV_if_ne (off := 6) (tgt := 18) C (by decide +kernel) (by decide) (fun h1 => ?_) (fun h1 => ?_)
  · skip
    have h0 := tq_b10 h1
    have hxy := k.cell h0
    refine EV_lve (lv' := [some (.ref 0), some (.int (nI (tq_N x))), some (.int (nI (tq_N y)))]) (by rw [← tq_nIN h0.1, ← tq_nIN h0.2.2.1]) ?_
    refine EV_blk (own := 11) C rfl [(.aload_n 0, 0, 0, 0, 0), (.getfield 12, 11, 0, 368, 0), (.getfield 77, 8, 0, 193, 0), (.iload_n 1, 0, 0, 0, 0), (.iload_n 2, 0, 0, 0, 0)] (pc' := 27) (by decide +kernel) (lv' := [some (.ref 0), some (.int (nI (tq_N x))), some (.int (nI (tq_N y)))]) (st' := [.int (nI (tq_N y)), .int (nI (tq_N x)), .ref 2]) (I' := I) (J' := J) rfl ?_
    refine EV_cV (own := 11) (idx := 156) (μ' := mX3_pathAt) (b := 2) (cb := 3) (av := [.int (nI (tq_N x)), .int (nI (tq_N y))]) (rest := []) C hR rfl (Or.inl ⟨544, by decide⟩) kX3_pathAt sX3_pathAt (c_X3_pathAt g rest I J (tq_N x) (tq_N y) (by omega) (by omega)) rfl rfl (by decide +kernel) rfl (by decide) (Nat.le_of_ble_eq_true rfl) rfl ⟨Nat.zero_le _, Nat.zero_le _⟩ ?_
    refine EV_blk (own := 11) C rfl [(.iconst 1, 0, 0, 0, (nI 1))] (pc' := 31) (by decide +kernel) (lv' := [some (.ref 0), some (.int (nI (tq_N x))), some (.int (nI (tq_N y)))]) (st' := [.int (nI 1), .int (I 4 ((tq_N y) * 10 + (tq_N x)))]) (I' := I) (J' := J) rfl ?_
    refine EV_icmp_ne (off := 28) (tgt := 59) C (by decide +kernel) (by decide) (fun h2 => ?_) (fun h2 => ?_)
    · skip
      refine EV_blk (own := 11) C rfl [(.iconst (-1), 0, 0, 0, (-1))] (pc' := 60) (by decide +kernel) (lv' := [some (.ref 0), some (.int (nI (tq_N x))), some (.int (nI (tq_N y)))]) (st' := [.int (-1)]) (I' := I) (J' := J) rfl ?_
      exact EV_iret C hZ rfl (by decide +kernel) (Nat.le_refl _) (Nat.le_refl _) ⟨tq_some (by simp only [r_X11_pathMask, if_neg h1, if_neg h2]), rfl, rfl, rfl, rfl⟩
    · skip
      refine EV_blk (own := 11) C rfl [(.aload_n 0, 0, 0, 0, 0), (.getfield 12, 11, 0, 368, 0), (.getfield 77, 8, 0, 193, 0), (.iload_n 1, 0, 0, 0, 0), (.iload_n 2, 0, 0, 0, 0), (.aload_n 0, 0, 0, 0, 0), (.getfield 12, 11, 0, 368, 0), (.getfield 135, 8, 1, 196, 0), (.getfield 162, 6, 5, 153, 0)] (pc' := 53) (by decide +kernel) (lv' := [some (.ref 0), some (.int (nI (tq_N x))), some (.int (nI (tq_N y)))]) (st' := [.int (I 5 5), .int (nI (tq_N y)), .int (nI (tq_N x)), .ref 2]) (I' := I) (J' := J) rfl ?_
      refine EV_cV (own := 11) (idx := 166) (μ' := mX3_pathMaskAt) (b := 2) (cb := 3) (av := [.int (nI (tq_N x)), .int (nI (tq_N y)), .int (I 5 5)]) (rest := []) C hR rfl (Or.inl ⟨558, by decide⟩) kX3_pathMaskAt sX3_pathMaskAt (c_X3_pathMaskAt g rest I J (tq_N x) (tq_N y) (I 5 5) k.wi k.hi k.bd) rfl rfl (by decide +kernel) rfl (by decide) (Nat.le_of_ble_eq_true rfl) rfl ⟨Nat.zero_le _, Nat.zero_le _⟩ ?_
      refine EV_blk (own := 11) C rfl [(.goto 4, 0, 0, 0, 0)] (pc' := 60) (by decide +kernel) (lv' := [some (.ref 0), some (.int (nI (tq_N x))), some (.int (nI (tq_N y)))]) (st' := [.int (r_X3_pathMaskAt I (tq_N x) (tq_N y) (I 5 5))]) (I' := I) (J' := J) rfl ?_
      exact EV_iret C hZ rfl (by decide +kernel) (Nat.le_refl _) (Nat.le_refl _) ⟨tq_some (by simp only [r_X11_pathMask, if_neg h1, if_pos h2]), rfl, rfl, rfl, rfl⟩
  · skip
    refine EV_blk (own := 11) C rfl [(.bipush (-2), 0, 0, 0, (-2))] (pc' := 17) (by decide +kernel) (lv' := [some (.ref 0), some (.int x), some (.int y)]) (st' := [.int (-2)]) (I' := I) (J' := J) rfl ?_
    exact EV_iret C hZ rfl (by decide +kernel) (Nat.le_refl _) (Nat.le_refl _) ⟨tq_some (by simp only [r_X11_pathMask, if_pos h1]), rfl, rfl, rfl, rfl⟩
def r_X11_pathTile (I : tq_I) (x y : Int32) (w h o c L : Nat) : Int32 := (if (tq_b (tq_cell I x y)) = 0 then (-2) else (r_X3_pathTileAt I (tq_N x) (tq_N y) (I 5 5)))
set_option maxRecDepth 20000 in
theorem c_X11_pathTile (g : tq_G) (rest : List tq_S) (I : tq_I) (J : Int64) (x y : Int32) (w h o c L : Nat) (k : tq_ok I w h o c L) : CT g mX11_pathTile 4 0 0 [.ref 0, .int x, .int y] (tq_SC ++ rest) tq_RR I J (tq_ret (tq_SC ++ rest) tq_RR (some (.int (r_X11_pathTile I x y w h o c L))) I J) := by
  refine CT.ret kX11_pathTile (Nat.le_of_ble_eq_true rfl) (fun x0 C hR hZ => ?_)
  refine EV_en (lv' := [some (.ref 0), some (.int x), some (.int y)]) 0 rfl ?_
  refine EV_blk (own := 11) C rfl [(.aload_n 0, 0, 0, 0, 0), (.getfield 12, 11, 0, 368, 0), (.getfield 77, 8, 0, 193, 0), (.iload_n 1, 0, 0, 0, 0), (.iload_n 2, 0, 0, 0, 0)] (pc' := 9) (by decide +kernel) (lv' := [some (.ref 0), some (.int x), some (.int y)]) (st' := [.int y, .int x, .ref 2]) (I' := I) (J' := J) rfl ?_
  refine EV_cV (own := 11) (idx := 153) (μ' := mX3_isCell) (b := 2) (cb := 3) (av := [.int x, .int y]) (rest := []) C hR rfl (Or.inl ⟨543, by decide⟩) kX3_isCell sX3_isCell (c_X3_isCell g rest I J x y ) rfl rfl (by decide +kernel) rfl (by decide) (Nat.le_of_ble_eq_true rfl) rfl ⟨Nat.zero_le _, Nat.zero_le _⟩ ?_
  refine EV_if_eq (off := 28) (tgt := 40) C (by decide +kernel) (by decide) (fun h1 => ?_) (fun h1 => ?_)
  · skip
    refine EV_blk (own := 11) C rfl [(.bipush (-2), 0, 0, 0, (-2))] (pc' := 42) (by decide +kernel) (lv' := [some (.ref 0), some (.int x), some (.int y)]) (st' := [.int (-2)]) (I' := I) (J' := J) rfl ?_
    exact EV_iret C hZ rfl (by decide +kernel) (Nat.le_refl _) (Nat.le_refl _) ⟨tq_some (by simp only [r_X11_pathTile, if_pos h1]), rfl, rfl, rfl, rfl⟩
  · skip
    have h0 := tq_b10 h1
    have hxy := k.cell h0
    refine EV_lve (lv' := [some (.ref 0), some (.int (nI (tq_N x))), some (.int (nI (tq_N y)))]) (by rw [← tq_nIN h0.1, ← tq_nIN h0.2.2.1]) ?_
    refine EV_blk (own := 11) C rfl [(.aload_n 0, 0, 0, 0, 0), (.getfield 12, 11, 0, 368, 0), (.getfield 77, 8, 0, 193, 0), (.iload_n 1, 0, 0, 0, 0), (.iload_n 2, 0, 0, 0, 0), (.aload_n 0, 0, 0, 0, 0), (.getfield 12, 11, 0, 368, 0), (.getfield 135, 8, 1, 196, 0), (.getfield 162, 6, 5, 153, 0)] (pc' := 34) (by decide +kernel) (lv' := [some (.ref 0), some (.int (nI (tq_N x))), some (.int (nI (tq_N y)))]) (st' := [.int (I 5 5), .int (nI (tq_N y)), .int (nI (tq_N x)), .ref 2]) (I' := I) (J' := J) rfl ?_
    refine EV_cV (own := 11) (idx := 170) (μ' := mX3_pathTileAt) (b := 2) (cb := 3) (av := [.int (nI (tq_N x)), .int (nI (tq_N y)), .int (I 5 5)]) (rest := []) C hR rfl (Or.inl ⟨575, by decide⟩) kX3_pathTileAt sX3_pathTileAt (c_X3_pathTileAt g rest I J (tq_N x) (tq_N y) (I 5 5) (by omega) (by omega) k.wi k.hi k.bd) rfl rfl (by decide +kernel) rfl (by decide) (Nat.le_of_ble_eq_true rfl) rfl ⟨Nat.zero_le _, Nat.zero_le _⟩ ?_
    refine EV_blk (own := 11) C rfl [(.goto 5, 0, 0, 0, 0)] (pc' := 42) (by decide +kernel) (lv' := [some (.ref 0), some (.int (nI (tq_N x))), some (.int (nI (tq_N y)))]) (st' := [.int (r_X3_pathTileAt I (tq_N x) (tq_N y) (I 5 5))]) (I' := I) (J' := J) rfl ?_
    exact EV_iret C hZ rfl (by decide +kernel) (Nat.le_refl _) (Nat.le_refl _) ⟨tq_some (by simp only [r_X11_pathTile, if_neg h1]), rfl, rfl, rfl, rfl⟩
theorem tq_t05 {t : Int32} (h : (nI 0).toInt ≤ t.toInt ∧ t.toInt ≤ (nI 5).toInt) : 0 ≤ t.toInt ∧ t.toInt ≤ 5 ∧ tq_N t ≤ 5 := by
  have e1 : (nI 0).toInt = 0 := by decide
  have e2 : (nI 5).toInt = 5 := by decide
  refine ⟨by omega, by omega, ?_⟩
  unfold tq_N
  omega
def r_X11_rank (I : tq_I) (t : Int32) (w h o c L : Nat) : Int32 := (if (tq_b ((nI 0).toInt ≤ t.toInt ∧ t.toInt ≤ (nI 5).toInt)) = 0 then (-2) else (I 6 (tq_N t)))
set_option maxRecDepth 20000 in
theorem c_X11_rank (g : tq_G) (rest : List tq_S) (I : tq_I) (J : Int64) (t : Int32) (w h o c L : Nat) (k : tq_ok I w h o c L) : CT g mX11_rank 2 0 0 [.ref 0, .int t] (tq_SC ++ rest) tq_RR I J (tq_ret (tq_SC ++ rest) tq_RR (some (.int (r_X11_rank I t w h o c L))) I J) := by
  refine CT.ret kX11_rank (Nat.le_of_ble_eq_true rfl) (fun x0 C hR hZ => ?_)
  refine EV_en (lv' := [some (.ref 0), some (.int t)]) 0 rfl ?_
  refine EV_blk (own := 11) C rfl [(.iload_n 1, 0, 0, 0, 0)] (pc' := 1) (by decide +kernel) (lv' := [some (.ref 0), some (.int t)]) (st' := [.int t]) (I' := I) (J' := J) rfl ?_
  refine EV_cS (own := 11) (idx := 65) (μ' := mX11_isTerrain) (av := [.int t]) (rest := []) C hR rfl (Or.inl ⟨397, by decide⟩) kX11_isTerrain sX11_isTerrain (c_X11_isTerrain g rest I J t ) (by decide +kernel) rfl (by decide) (Nat.le_of_ble_eq_true rfl) rfl ⟨Nat.zero_le _, Nat.zero_le _⟩ ?_
  refine EV_if_eq (off := 17) (tgt := 21) C (by decide +kernel) (by decide) (fun h1 => ?_) (fun h1 => ?_)
  · skip
    refine EV_blk (own := 11) C rfl [(.bipush (-2), 0, 0, 0, (-2))] (pc' := 23) (by decide +kernel) (lv' := [some (.ref 0), some (.int t)]) (st' := [.int (-2)]) (I' := I) (J' := J) rfl ?_
    exact EV_iret C hZ rfl (by decide +kernel) (Nat.le_refl _) (Nat.le_refl _) ⟨tq_some (by simp only [r_X11_rank, if_pos h1]), rfl, rfl, rfl, rfl⟩
  · skip
    have ht := tq_t05 (tq_b10 h1)
    refine EV_lve (lv' := [some (.ref 0), some (.int (nI (tq_N t)))]) (by rw [← tq_nIN ht.1]) ?_
    refine EV_blk (own := 11) C rfl [(.aload_n 0, 0, 0, 0, 0), (.getfield 12, 11, 0, 368, 0), (.getfield 135, 8, 1, 196, 0), (.iload_n 1, 0, 0, 0, 0)] (pc' := 15) (by decide +kernel) (lv' := [some (.ref 0), some (.int (nI (tq_N t)))]) (st' := [.int (nI (tq_N t)), .ref 5]) (I' := I) (J' := J) rfl ?_
    refine EV_cV (own := 11) (idx := 139) (μ' := mX6_rankOf) (b := 5) (cb := 6) (av := [.int (nI (tq_N t))]) (rest := []) C hR rfl (Or.inl ⟨523, by decide⟩) kX6_rankOf sX6_rankOf (c_X6_rankOf g rest I J (tq_N t) (by omega)) rfl rfl (by decide +kernel) rfl (by decide) (Nat.le_of_ble_eq_true rfl) rfl ⟨Nat.zero_le _, Nat.zero_le _⟩ ?_
    refine EV_blk (own := 11) C rfl [(.goto 5, 0, 0, 0, 0)] (pc' := 23) (by decide +kernel) (lv' := [some (.ref 0), some (.int (nI (tq_N t)))]) (st' := [.int (I 6 (tq_N t))]) (I' := I) (J' := J) rfl ?_
    exact EV_iret C hZ rfl (by decide +kernel) (Nat.le_refl _) (Nat.le_refl _) ⟨tq_some (by simp only [r_X11_rank, if_neg h1]), rfl, rfl, rfl, rfl⟩
def r_X11_size (I : tq_I) (q : Int32) (w h o c L : Nat) : Int32 := (if q = (nI 0) then (I 2 0) else (if q = (nI 1) then (I 2 1) else (if q = (nI 2) then (r_X3_countPaths I w h) else (-3))))
set_option maxRecDepth 20000 in
theorem c_X11_size (g : tq_G) (rest : List tq_S) (I : tq_I) (J : Int64) (q : Int32) (w h o c L : Nat) (k : tq_ok I w h o c L) : CT g mX11_size 3 0 0 [.ref 0, .int q] (tq_SC ++ rest) tq_RR I J (tq_ret (tq_SC ++ rest) tq_RR (some (.int (r_X11_size I q w h o c L))) I J) := by
  refine CT.ret kX11_size (Nat.le_of_ble_eq_true rfl) (fun x0 C hR hZ => ?_)
  refine EV_en (lv' := [some (.ref 0), some (.int q)]) 0 rfl ?_
  refine EV_blk (own := 11) C rfl [(.iload_n 1, 0, 0, 0, 0)] (pc' := 1) (by decide +kernel) (lv' := [some (.ref 0), some (.int q)]) (st' := [.int q]) (I' := I) (J' := J) rfl ?_
  by_cases e1 : q = (nI 0)
  · skip
    refine EV_tableIn (dflt := 60) (lo := 0) (hi := 2) (offs := #[27, 38, 49]) (len := 27) (off := 27) (tgt := 28) C (by decide +kernel) (by rw [e1]; decide) (by rw [e1]; decide) (by rw [e1]; rfl) (by decide) ?_
    refine EV_blk (own := 11) C rfl [(.aload_n 0, 0, 0, 0, 0), (.getfield 12, 11, 0, 368, 0), (.getfield 77, 8, 0, 193, 0), (.getfield 81, 3, 0, 98, 0)] (pc' := 38) (by decide +kernel) (lv' := [some (.ref 0), some (.int q)]) (st' := [.int (I 2 0)]) (I' := I) (J' := J) rfl ?_
    exact EV_iret C hZ rfl (by decide +kernel) (Nat.le_refl _) (Nat.le_refl _) ⟨tq_some (by simp only [r_X11_size, if_pos e1]), rfl, rfl, rfl, rfl⟩
  · skip
    by_cases e2 : q = (nI 1)
    · skip
      refine EV_tableIn (dflt := 60) (lo := 0) (hi := 2) (offs := #[27, 38, 49]) (len := 27) (off := 38) (tgt := 39) C (by decide +kernel) (by rw [e2]; decide) (by rw [e2]; decide) (by rw [e2]; rfl) (by decide) ?_
      refine EV_blk (own := 11) C rfl [(.aload_n 0, 0, 0, 0, 0), (.getfield 12, 11, 0, 368, 0), (.getfield 77, 8, 0, 193, 0), (.getfield 87, 3, 1, 102, 0)] (pc' := 49) (by decide +kernel) (lv' := [some (.ref 0), some (.int q)]) (st' := [.int (I 2 1)]) (I' := I) (J' := J) rfl ?_
      exact EV_iret C hZ rfl (by decide +kernel) (Nat.le_refl _) (Nat.le_refl _) ⟨tq_some (by simp only [r_X11_size, if_neg e1, if_pos e2]), rfl, rfl, rfl, rfl⟩
    · skip
      by_cases e3 : q = (nI 2)
      · skip
        refine EV_tableIn (dflt := 60) (lo := 0) (hi := 2) (offs := #[27, 38, 49]) (len := 27) (off := 49) (tgt := 50) C (by decide +kernel) (by rw [e3]; decide) (by rw [e3]; decide) (by rw [e3]; rfl) (by decide) ?_
        refine EV_blk (own := 11) C rfl [(.aload_n 0, 0, 0, 0, 0), (.getfield 12, 11, 0, 368, 0), (.getfield 77, 8, 0, 193, 0)] (pc' := 57) (by decide +kernel) (lv' := [some (.ref 0), some (.int q)]) (st' := [.ref 2]) (I' := I) (J' := J) rfl ?_
        refine EV_cV (own := 11) (idx := 90) (μ' := mX3_countPaths) (b := 2) (cb := 3) (av := []) (rest := []) C hR rfl (Or.inl ⟨437, by decide⟩) kX3_countPaths sX3_countPaths (c_X3_countPaths g rest I J w h k.hw k.hh k.w10 k.h10) rfl rfl (by decide +kernel) rfl (by decide) (Nat.le_of_ble_eq_true rfl) rfl ⟨Nat.zero_le _, Nat.zero_le _⟩ ?_
        exact EV_iret C hZ rfl (by decide +kernel) (Nat.le_refl _) (Nat.le_refl _) ⟨tq_some (by simp only [r_X11_size, if_neg e1, if_neg e2, if_pos e3]), rfl, rfl, rfl, rfl⟩
      · skip
        refine EV_tableOut (dflt := 60) (lo := 0) (hi := 2) (offs := #[27, 38, 49]) (len := 27) (tgt := 61) C (by decide +kernel) (tq_swo (n := 2) (by decide) (fun q hq => by rcases (show q = 0 ∨ q = 1 ∨ q = 2 by omega) with rfl | rfl | rfl <;> assumption)) (by decide) ?_
        refine EV_blk (own := 11) C rfl [(.bipush (-3), 0, 0, 0, (-3))] (pc' := 63) (by decide +kernel) (lv' := [some (.ref 0), some (.int q)]) (st' := [.int (-3)]) (I' := I) (J' := J) rfl ?_
        exact EV_iret C hZ rfl (by decide +kernel) (Nat.le_refl _) (Nat.le_refl _) ⟨tq_some (by simp only [r_X11_size, if_neg e1, if_neg e2, if_neg e3]), rfl, rfl, rfl, rfl⟩
def r_X11_setCorner (I : tq_I) (x y t : Int32) (w h o c L : Nat) : Int32 := (if (tq_b (tq_corner I x y)) = 0 then (-2) else (if (tq_b ((nI 0).toInt ≤ t.toInt ∧ t.toInt ≤ (nI 5).toInt)) = 0 then (-2) else ((tq_rec I o c) 3 ((tq_N y) * 11 + (tq_N x)))))
def I_X11_setCorner (I : tq_I) (x y t : Int32) (w h o c L : Nat) : tq_I := (if (tq_b (tq_corner I x y)) = 0 then I else (if (tq_b ((nI 0).toInt ≤ t.toInt ∧ t.toInt ≤ (nI 5).toInt)) = 0 then I else (I_X8_changeCorner (tq_rec I o c) (tq_N x) (tq_N y) t)))
set_option maxRecDepth 20000 in
theorem c_X11_setCorner (g : tq_G) (rest : List tq_S) (I : tq_I) (J : Int64) (x y t : Int32) (w h o c L : Nat) (k : tq_ok I w h o c L) : CT g mX11_setCorner 6 0 0 [.ref 0, .int x, .int y, .int t] (tq_SC ++ rest) tq_RR I J (tq_ret (tq_SC ++ rest) tq_RR (some (.int (r_X11_setCorner I x y t w h o c L))) (I_X11_setCorner I x y t w h o c L) J) := by
  refine CT.ret kX11_setCorner (Nat.le_of_ble_eq_true rfl) (fun x0 C hR hZ => ?_)
  refine EV_en (lv' := [some (.ref 0), some (.int x), some (.int y), some (.int t), none]) 1 rfl ?_
  refine EV_blk (own := 11) C rfl [(.aload_n 0, 0, 0, 0, 0), (.getfield 12, 11, 0, 368, 0), (.getfield 77, 8, 0, 193, 0), (.iload_n 1, 0, 0, 0, 0), (.iload_n 2, 0, 0, 0, 0)] (pc' := 9) (by decide +kernel) (lv' := [some (.ref 0), some (.int x), some (.int y), some (.int t), none]) (st' := [.int y, .int x, .ref 2]) (I' := I) (J' := J) rfl ?_
  refine EV_cV (own := 11) (idx := 94) (μ' := mX3_isCorner) (b := 2) (cb := 3) (av := [.int x, .int y]) (rest := []) C hR rfl (Or.inl ⟨450, by decide⟩) kX3_isCorner sX3_isCorner (c_X3_isCorner g rest I J x y ) rfl rfl (by decide +kernel) rfl (by decide) (Nat.le_of_ble_eq_true rfl) rfl ⟨Nat.zero_le _, Nat.zero_le _⟩ ?_
  refine EV_if_eq (off := 10) (tgt := 22) C (by decide +kernel) (by decide) (fun h1 => ?_) (fun h1 => ?_)
  · skip
    refine EV_blk (own := 11) C rfl [(.bipush (-2), 0, 0, 0, (-2))] (pc' := 24) (by decide +kernel) (lv' := [some (.ref 0), some (.int x), some (.int y), some (.int t), none]) (st' := [.int (-2)]) (I' := I) (J' := J) rfl ?_
    exact EV_iret C hZ rfl (by decide +kernel) (Nat.le_refl _) (Nat.le_refl _) ⟨tq_some (by simp only [r_X11_setCorner, if_pos h1]), rfl, rfl, by simp only [I_X11_setCorner, if_pos h1], rfl⟩
  · skip
    have h0 := tq_b10 h1
    have hxy := k.corner h0
    refine EV_blk (own := 11) C rfl [(.iload_n 3, 0, 0, 0, 0)] (pc' := 16) (by decide +kernel) (lv' := [some (.ref 0), some (.int x), some (.int y), some (.int t), none]) (st' := [.int t]) (I' := I) (J' := J) rfl ?_
    refine EV_cS (own := 11) (idx := 65) (μ' := mX11_isTerrain) (av := [.int t]) (rest := []) C hR rfl (Or.inl ⟨397, by decide⟩) kX11_isTerrain sX11_isTerrain (c_X11_isTerrain g rest I J t ) (by decide +kernel) rfl (by decide) (Nat.le_of_ble_eq_true rfl) rfl ⟨Nat.zero_le _, Nat.zero_le _⟩ ?_
    refine EV_if_ne (off := 6) (tgt := 25) C (by decide +kernel) (by decide) (fun h2 => ?_) (fun h2 => ?_)
    · skip
      have ht := tq_t05 (tq_b10 h2)
      refine EV_lve (lv' := [some (.ref 0), some (.int (nI (tq_N x))), some (.int (nI (tq_N y))), some (.int t), none]) (by rw [← tq_nIN h0.1, ← tq_nIN h0.2.2.1]) ?_
      refine EV_blk (own := 11) C rfl [(.aload_n 0, 0, 0, 0, 0), (.getfield 19, 11, 1, 369, 0), (.aload_n 0, 0, 0, 0, 0), (.getfield 12, 11, 0, 368, 0)] (pc' := 33) (by decide +kernel) (lv' := [some (.ref 0), some (.int (nI (tq_N x))), some (.int (nI (tq_N y))), some (.int t), none]) (st' := [.ref 1, .ref 17]) (I' := I) (J' := J) rfl ?_
      refine EV_cV (own := 11) (idx := 73) (μ' := mX2_record) (b := 17) (cb := 2) (av := [.ref 1]) (rest := []) C hR rfl (Or.inl ⟨403, by decide⟩) kX2_record sX2_record (c_X2_record g rest I J o c k.ho k.hc k.o5 k.c5 k.bd) rfl rfl (by decide +kernel) rfl (by decide) (Nat.le_of_ble_eq_true rfl) rfl ⟨Nat.zero_le _, Nat.zero_le _⟩ ?_
      refine EV_blk (own := 11) C rfl [(.aload_n 0, 0, 0, 0, 0), (.getfield 12, 11, 0, 368, 0), (.getfield 77, 8, 0, 193, 0), (.iload_n 1, 0, 0, 0, 0), (.iload_n 2, 0, 0, 0, 0)] (pc' := 45) (by decide +kernel) (lv' := [some (.ref 0), some (.int (nI (tq_N x))), some (.int (nI (tq_N y))), some (.int t), none]) (st' := [.int (nI (tq_N y)), .int (nI (tq_N x)), .ref 2]) (I' := (tq_rec I o c)) (J' := J) rfl ?_
      refine EV_cV (own := 11) (idx := 98) (μ' := mX3_terrainAt) (b := 2) (cb := 3) (av := [.int (nI (tq_N x)), .int (nI (tq_N y))]) (rest := []) C hR rfl (Or.inl ⟨454, by decide⟩) kX3_terrainAt sX3_terrainAt (c_X3_terrainAt g rest (tq_rec I o c) J (tq_N x) (tq_N y) (by omega) (by omega)) rfl rfl (by decide +kernel) rfl (by decide) (Nat.le_of_ble_eq_true rfl) rfl ⟨Nat.zero_le _, Nat.zero_le _⟩ ?_
      refine EV_blk (own := 11) C rfl [(.istore 4, 0, 0, 0, 0), (.aload_n 0, 0, 0, 0, 0), (.getfield 12, 11, 0, 368, 0), (.iload_n 1, 0, 0, 0, 0), (.iload_n 2, 0, 0, 0, 0), (.iload_n 3, 0, 0, 0, 0)] (pc' := 57) (by decide +kernel) (lv' := [some (.ref 0), some (.int (nI (tq_N x))), some (.int (nI (tq_N y))), some (.int t), some (.int ((tq_rec I o c) 3 ((tq_N y) * 11 + (tq_N x))))]) (st' := [.int t, .int (nI (tq_N y)), .int (nI (tq_N x)), .ref 1]) (I' := (tq_rec I o c)) (J' := J) rfl ?_
      refine EV_cV (own := 11) (idx := 102) (μ' := mX8_changeCorner) (b := 1) (cb := 8) (av := [.int (nI (tq_N x)), .int (nI (tq_N y)), .int t]) (rest := []) C hR rfl (Or.inl ⟨461, by decide⟩) kX8_changeCorner sX8_changeCorner (c_X8_changeCorner g rest (tq_rec I o c) J (tq_N x) (tq_N y) t (by omega) (by omega) k.rec.wh) rfl rfl (by decide +kernel) rfl (by decide) (Nat.le_of_ble_eq_true rfl) rfl ⟨Nat.zero_le _, Nat.zero_le _⟩ ?_
      refine EV_blk (own := 11) C rfl [(.pop, 0, 0, 0, 0), (.iload 4, 0, 0, 0, 0)] (pc' := 63) (by decide +kernel) (lv' := [some (.ref 0), some (.int (nI (tq_N x))), some (.int (nI (tq_N y))), some (.int t), some (.int ((tq_rec I o c) 3 ((tq_N y) * 11 + (tq_N x))))]) (st' := [.int ((tq_rec I o c) 3 ((tq_N y) * 11 + (tq_N x)))]) (I' := (I_X8_changeCorner (tq_rec I o c) (tq_N x) (tq_N y) t)) (J' := J) rfl ?_
      exact EV_iret C hZ rfl (by decide +kernel) (Nat.le_refl _) (Nat.le_refl _) ⟨tq_some (by simp only [r_X11_setCorner, if_neg h1, if_neg h2]), rfl, rfl, by simp only [I_X11_setCorner, if_neg h1, if_neg h2], rfl⟩
    · skip
      refine EV_blk (own := 11) C rfl [(.bipush (-2), 0, 0, 0, (-2))] (pc' := 24) (by decide +kernel) (lv' := [some (.ref 0), some (.int x), some (.int y), some (.int t), none]) (st' := [.int (-2)]) (I' := I) (J' := J) rfl ?_
      exact EV_iret C hZ rfl (by decide +kernel) (Nat.le_refl _) (Nat.le_refl _) ⟨tq_some (by simp only [r_X11_setCorner, if_neg h1, if_pos h2]), rfl, rfl, by simp only [I_X11_setCorner, if_neg h1, if_pos h2], rfl⟩
def r_X11_setPath (I : tq_I) (x y b : Int32) (w h o c L : Nat) : Int32 := (if (tq_b (tq_cell I x y)) = 0 then (-2) else (if b = 0 then ((tq_rec I o c) 4 ((tq_N y) * 10 + (tq_N x))) else ((tq_rec I o c) 4 ((tq_N y) * 10 + (tq_N x)))))
def I_X11_setPath (I : tq_I) (x y b : Int32) (w h o c L : Nat) : tq_I := (if (tq_b (tq_cell I x y)) = 0 then I else (if b = 0 then (I_X8_changePath (tq_rec I o c) (tq_N x) (tq_N y) (nI 0)) else (I_X8_changePath (tq_rec I o c) (tq_N x) (tq_N y) (nI 1))))
set_option maxRecDepth 20000 in
theorem c_X11_setPath (g : tq_G) (rest : List tq_S) (I : tq_I) (J : Int64) (x y b : Int32) (w h o c L : Nat) (k : tq_ok I w h o c L) : CT g mX11_setPath 6 0 0 [.ref 0, .int x, .int y, .int b] (tq_SC ++ rest) tq_RR I J (tq_ret (tq_SC ++ rest) tq_RR (some (.int (r_X11_setPath I x y b w h o c L))) (I_X11_setPath I x y b w h o c L) J) := by
  refine CT.ret kX11_setPath (Nat.le_of_ble_eq_true rfl) (fun x0 C hR hZ => ?_)
  refine EV_en (lv' := [some (.ref 0), some (.int x), some (.int y), some (.int b), none]) 1 rfl ?_
  refine EV_blk (own := 11) C rfl [(.aload_n 0, 0, 0, 0, 0), (.getfield 12, 11, 0, 368, 0), (.getfield 77, 8, 0, 193, 0), (.iload_n 1, 0, 0, 0, 0), (.iload_n 2, 0, 0, 0, 0)] (pc' := 9) (by decide +kernel) (lv' := [some (.ref 0), some (.int x), some (.int y), some (.int b), none]) (st' := [.int y, .int x, .ref 2]) (I' := I) (J' := J) rfl ?_
  refine EV_cV (own := 11) (idx := 153) (μ' := mX3_isCell) (b := 2) (cb := 3) (av := [.int x, .int y]) (rest := []) C hR rfl (Or.inl ⟨543, by decide⟩) kX3_isCell sX3_isCell (c_X3_isCell g rest I J x y ) rfl rfl (by decide +kernel) rfl (by decide) (Nat.le_of_ble_eq_true rfl) rfl ⟨Nat.zero_le _, Nat.zero_le _⟩ ?_
  refine EV_if_ne (off := 6) (tgt := 18) C (by decide +kernel) (by decide) (fun h1 => ?_) (fun h1 => ?_)
  · skip
    have h0 := tq_b10 h1
    have hxy := k.cell h0
    refine EV_lve (lv' := [some (.ref 0), some (.int (nI (tq_N x))), some (.int (nI (tq_N y))), some (.int b), none]) (by rw [← tq_nIN h0.1, ← tq_nIN h0.2.2.1]) ?_
    refine EV_blk (own := 11) C rfl [(.aload_n 0, 0, 0, 0, 0), (.getfield 19, 11, 1, 369, 0), (.aload_n 0, 0, 0, 0, 0), (.getfield 12, 11, 0, 368, 0)] (pc' := 26) (by decide +kernel) (lv' := [some (.ref 0), some (.int (nI (tq_N x))), some (.int (nI (tq_N y))), some (.int b), none]) (st' := [.ref 1, .ref 17]) (I' := I) (J' := J) rfl ?_
    refine EV_cV (own := 11) (idx := 73) (μ' := mX2_record) (b := 17) (cb := 2) (av := [.ref 1]) (rest := []) C hR rfl (Or.inl ⟨403, by decide⟩) kX2_record sX2_record (c_X2_record g rest I J o c k.ho k.hc k.o5 k.c5 k.bd) rfl rfl (by decide +kernel) rfl (by decide) (Nat.le_of_ble_eq_true rfl) rfl ⟨Nat.zero_le _, Nat.zero_le _⟩ ?_
    refine EV_blk (own := 11) C rfl [(.aload_n 0, 0, 0, 0, 0), (.getfield 12, 11, 0, 368, 0), (.getfield 77, 8, 0, 193, 0), (.iload_n 1, 0, 0, 0, 0), (.iload_n 2, 0, 0, 0, 0)] (pc' := 38) (by decide +kernel) (lv' := [some (.ref 0), some (.int (nI (tq_N x))), some (.int (nI (tq_N y))), some (.int b), none]) (st' := [.int (nI (tq_N y)), .int (nI (tq_N x)), .ref 2]) (I' := (tq_rec I o c)) (J' := J) rfl ?_
    refine EV_cV (own := 11) (idx := 156) (μ' := mX3_pathAt) (b := 2) (cb := 3) (av := [.int (nI (tq_N x)), .int (nI (tq_N y))]) (rest := []) C hR rfl (Or.inl ⟨544, by decide⟩) kX3_pathAt sX3_pathAt (c_X3_pathAt g rest (tq_rec I o c) J (tq_N x) (tq_N y) (by omega) (by omega)) rfl rfl (by decide +kernel) rfl (by decide) (Nat.le_of_ble_eq_true rfl) rfl ⟨Nat.zero_le _, Nat.zero_le _⟩ ?_
    refine EV_blk (own := 11) C rfl [(.istore 4, 0, 0, 0, 0), (.aload_n 0, 0, 0, 0, 0), (.getfield 12, 11, 0, 368, 0), (.iload_n 1, 0, 0, 0, 0), (.iload_n 2, 0, 0, 0, 0), (.iload_n 3, 0, 0, 0, 0)] (pc' := 50) (by decide +kernel) (lv' := [some (.ref 0), some (.int (nI (tq_N x))), some (.int (nI (tq_N y))), some (.int b), some (.int ((tq_rec I o c) 4 ((tq_N y) * 10 + (tq_N x))))]) (st' := [.int b, .int (nI (tq_N y)), .int (nI (tq_N x)), .ref 1]) (I' := (tq_rec I o c)) (J' := J) rfl ?_
    refine EV_if_eq (off := 7) (tgt := 57) C (by decide +kernel) (by decide) (fun h2 => ?_) (fun h2 => ?_)
    · skip
      refine EV_blk (own := 11) C rfl [(.iconst 0, 0, 0, 0, (nI 0))] (pc' := 58) (by decide +kernel) (lv' := [some (.ref 0), some (.int (nI (tq_N x))), some (.int (nI (tq_N y))), some (.int b), some (.int ((tq_rec I o c) 4 ((tq_N y) * 10 + (tq_N x))))]) (st' := [.int (nI 0), .int (nI (tq_N y)), .int (nI (tq_N x)), .ref 1]) (I' := (tq_rec I o c)) (J' := J) rfl ?_
      refine EV_cV (own := 11) (idx := 159) (μ' := mX8_changePath) (b := 1) (cb := 8) (av := [.int (nI (tq_N x)), .int (nI (tq_N y)), .int (nI 0)]) (rest := []) C hR rfl (Or.inl ⟨545, by decide⟩) kX8_changePath sX8_changePath (c_X8_changePath g rest (tq_rec I o c) J (tq_N x) (tq_N y) (nI 0) (by omega) (by omega) k.rec.wh) rfl rfl (by decide +kernel) rfl (by decide) (Nat.le_of_ble_eq_true rfl) rfl ⟨Nat.zero_le _, Nat.zero_le _⟩ ?_
      refine EV_blk (own := 11) C rfl [(.iload 4, 0, 0, 0, 0)] (pc' := 63) (by decide +kernel) (lv' := [some (.ref 0), some (.int (nI (tq_N x))), some (.int (nI (tq_N y))), some (.int b), some (.int ((tq_rec I o c) 4 ((tq_N y) * 10 + (tq_N x))))]) (st' := [.int ((tq_rec I o c) 4 ((tq_N y) * 10 + (tq_N x)))]) (I' := (I_X8_changePath (tq_rec I o c) (tq_N x) (tq_N y) (nI 0))) (J' := J) rfl ?_
      exact EV_iret C hZ rfl (by decide +kernel) (Nat.le_refl _) (Nat.le_refl _) ⟨tq_some (by simp only [r_X11_setPath, if_neg h1, if_pos h2]), rfl, rfl, by simp only [I_X11_setPath, if_neg h1, if_pos h2], rfl⟩
    · skip
      refine EV_blk (own := 11) C rfl [(.iconst 1, 0, 0, 0, (nI 1)), (.goto 4, 0, 0, 0, 0)] (pc' := 58) (by decide +kernel) (lv' := [some (.ref 0), some (.int (nI (tq_N x))), some (.int (nI (tq_N y))), some (.int b), some (.int ((tq_rec I o c) 4 ((tq_N y) * 10 + (tq_N x))))]) (st' := [.int (nI 1), .int (nI (tq_N y)), .int (nI (tq_N x)), .ref 1]) (I' := (tq_rec I o c)) (J' := J) rfl ?_
      refine EV_cV (own := 11) (idx := 159) (μ' := mX8_changePath) (b := 1) (cb := 8) (av := [.int (nI (tq_N x)), .int (nI (tq_N y)), .int (nI 1)]) (rest := []) C hR rfl (Or.inl ⟨545, by decide⟩) kX8_changePath sX8_changePath (c_X8_changePath g rest (tq_rec I o c) J (tq_N x) (tq_N y) (nI 1) (by omega) (by omega) k.rec.wh) rfl rfl (by decide +kernel) rfl (by decide) (Nat.le_of_ble_eq_true rfl) rfl ⟨Nat.zero_le _, Nat.zero_le _⟩ ?_
      refine EV_blk (own := 11) C rfl [(.iload 4, 0, 0, 0, 0)] (pc' := 63) (by decide +kernel) (lv' := [some (.ref 0), some (.int (nI (tq_N x))), some (.int (nI (tq_N y))), some (.int b), some (.int ((tq_rec I o c) 4 ((tq_N y) * 10 + (tq_N x))))]) (st' := [.int ((tq_rec I o c) 4 ((tq_N y) * 10 + (tq_N x)))]) (I' := (I_X8_changePath (tq_rec I o c) (tq_N x) (tq_N y) (nI 1))) (J' := J) rfl ?_
      exact EV_iret C hZ rfl (by decide +kernel) (Nat.le_refl _) (Nat.le_refl _) ⟨tq_some (by simp only [r_X11_setPath, if_neg h1, if_neg h2]), rfl, rfl, by simp only [I_X11_setPath, if_neg h1, if_neg h2], rfl⟩
  · skip
    refine EV_blk (own := 11) C rfl [(.bipush (-2), 0, 0, 0, (-2))] (pc' := 17) (by decide +kernel) (lv' := [some (.ref 0), some (.int x), some (.int y), some (.int b), none]) (st' := [.int (-2)]) (I' := I) (J' := J) rfl ?_
    exact EV_iret C hZ rfl (by decide +kernel) (Nat.le_refl _) (Nat.le_refl _) ⟨tq_some (by simp only [r_X11_setPath, if_pos h1]), rfl, rfl, by simp only [I_X11_setPath, if_pos h1], rfl⟩
theorem tq_w10 {v : Int32} (h : (nI 1).toInt ≤ v.toInt ∧ v.toInt ≤ (nI 10).toInt) : 0 ≤ v.toInt ∧ 1 ≤ tq_N v ∧ tq_N v ≤ 10 := by
  have e1 : (nI 1).toInt = 1 := by decide
  have e2 : (nI 10).toInt = 10 := by decide
  unfold tq_N
  omega
def r_X11_begin (I : tq_I) (W H t : Int32) (w h o c L : Nat) : Int32 := (if (tq_b ((nI 0).toInt ≤ t.toInt ∧ t.toInt ≤ (nI 5).toInt)) = 0 then (-2) else (if (tq_b ((nI 1).toInt ≤ W.toInt ∧ W.toInt ≤ (nI 10).toInt)) = 0 then (-3) else (if (tq_b ((nI 1).toInt ≤ H.toInt ∧ H.toInt ≤ (nI 10).toInt)) = 0 then (-3) else ((nI (tq_N W)) * (nI (tq_N H))))))
def I_X11_begin (I : tq_I) (W H t : Int32) (w h o c L : Nat) : tq_I := (if (tq_b ((nI 0).toInt ≤ t.toInt ∧ t.toInt ≤ (nI 5).toInt)) = 0 then I else (if (tq_b ((nI 1).toInt ≤ W.toInt ∧ W.toInt ≤ (nI 10).toInt)) = 0 then I else (if (tq_b ((nI 1).toInt ≤ H.toInt ∧ H.toInt ≤ (nI 10).toInt)) = 0 then I else (I_X8_startMap (tq_rec I o c) (tq_N W) (tq_N H) t))))
set_option maxRecDepth 20000 in
theorem c_X11_begin (g : tq_G) (rest : List tq_S) (I : tq_I) (J : Int64) (W H t : Int32) (w h o c L : Nat) (k : tq_ok I w h o c L) : CT g mX11_begin 6 0 0 [.ref 0, .int W, .int H, .int t] (tq_SC ++ rest) tq_RR I J (tq_ret (tq_SC ++ rest) tq_RR (some (.int (r_X11_begin I W H t w h o c L))) (I_X11_begin I W H t w h o c L) J) := by
  refine CT.ret kX11_begin (Nat.le_of_ble_eq_true rfl) (fun x0 C hR hZ => ?_)
  refine EV_en (lv' := [some (.ref 0), some (.int W), some (.int H), some (.int t)]) 0 rfl ?_
  refine EV_blk (own := 11) C rfl [(.iload_n 3, 0, 0, 0, 0)] (pc' := 1) (by decide +kernel) (lv' := [some (.ref 0), some (.int W), some (.int H), some (.int t)]) (st' := [.int t]) (I' := I) (J' := J) rfl ?_
  refine EV_cS (own := 11) (idx := 65) (μ' := mX11_isTerrain) (av := [.int t]) (rest := []) C hR rfl (Or.inl ⟨397, by decide⟩) kX11_isTerrain sX11_isTerrain (c_X11_isTerrain g rest I J t ) (by decide +kernel) rfl (by decide) (Nat.le_of_ble_eq_true rfl) rfl ⟨Nat.zero_le _, Nat.zero_le _⟩ ?_
  refine EV_if_ne (off := 6) (tgt := 10) C (by decide +kernel) (by decide) (fun h1 => ?_) (fun h1 => ?_)
  · skip
    have ht := tq_t05 (tq_b10 h1)
    refine EV_blk (own := 11) C rfl [(.iload_n 1, 0, 0, 0, 0), (.iconst 1, 0, 0, 0, (nI 1)), (.bipush 10, 0, 0, 0, (nI 10))] (pc' := 14) (by decide +kernel) (lv' := [some (.ref 0), some (.int W), some (.int H), some (.int t)]) (st' := [.int (nI 10), .int (nI 1), .int W]) (I' := I) (J' := J) rfl ?_
    refine EV_cS (own := 11) (idx := 69) (μ' := mX11_isWithin) (av := [.int W, .int (nI 1), .int (nI 10)]) (rest := []) C hR rfl (Or.inl ⟨400, by decide⟩) kX11_isWithin sX11_isWithin (c_X11_isWithin g rest I J W (nI 1) (nI 10) ) (by decide +kernel) rfl (by decide) (Nat.le_of_ble_eq_true rfl) rfl ⟨Nat.zero_le _, Nat.zero_le _⟩ ?_
    refine EV_if_eq (off := 13) (tgt := 30) C (by decide +kernel) (by decide) (fun h2 => ?_) (fun h2 => ?_)
    · skip
      refine EV_blk (own := 11) C rfl [(.bipush (-3), 0, 0, 0, (-3))] (pc' := 32) (by decide +kernel) (lv' := [some (.ref 0), some (.int W), some (.int H), some (.int t)]) (st' := [.int (-3)]) (I' := I) (J' := J) rfl ?_
      exact EV_iret C hZ rfl (by decide +kernel) (Nat.le_refl _) (Nat.le_refl _) ⟨tq_some (by simp only [r_X11_begin, if_neg h1, if_pos h2]), rfl, rfl, by simp only [I_X11_begin, if_neg h1, if_pos h2], rfl⟩
    · skip
      have hW := tq_w10 (tq_b10 h2)
      refine EV_blk (own := 11) C rfl [(.iload_n 2, 0, 0, 0, 0), (.iconst 1, 0, 0, 0, (nI 1)), (.bipush 10, 0, 0, 0, (nI 10))] (pc' := 24) (by decide +kernel) (lv' := [some (.ref 0), some (.int W), some (.int H), some (.int t)]) (st' := [.int (nI 10), .int (nI 1), .int H]) (I' := I) (J' := J) rfl ?_
      refine EV_cS (own := 11) (idx := 69) (μ' := mX11_isWithin) (av := [.int H, .int (nI 1), .int (nI 10)]) (rest := []) C hR rfl (Or.inl ⟨400, by decide⟩) kX11_isWithin sX11_isWithin (c_X11_isWithin g rest I J H (nI 1) (nI 10) ) (by decide +kernel) rfl (by decide) (Nat.le_of_ble_eq_true rfl) rfl ⟨Nat.zero_le _, Nat.zero_le _⟩ ?_
      refine EV_if_ne (off := 6) (tgt := 33) C (by decide +kernel) (by decide) (fun h3 => ?_) (fun h3 => ?_)
      · skip
        have hH := tq_w10 (tq_b10 h3)
        refine EV_lve (lv' := [some (.ref 0), some (.int (nI (tq_N W))), some (.int (nI (tq_N H))), some (.int t)]) (by rw [← tq_nIN hW.1, ← tq_nIN hH.1]) ?_
        refine EV_blk (own := 11) C rfl [(.aload_n 0, 0, 0, 0, 0), (.getfield 19, 11, 1, 369, 0), (.aload_n 0, 0, 0, 0, 0), (.getfield 12, 11, 0, 368, 0)] (pc' := 41) (by decide +kernel) (lv' := [some (.ref 0), some (.int (nI (tq_N W))), some (.int (nI (tq_N H))), some (.int t)]) (st' := [.ref 1, .ref 17]) (I' := I) (J' := J) rfl ?_
        refine EV_cV (own := 11) (idx := 73) (μ' := mX2_record) (b := 17) (cb := 2) (av := [.ref 1]) (rest := []) C hR rfl (Or.inl ⟨403, by decide⟩) kX2_record sX2_record (c_X2_record g rest I J o c k.ho k.hc k.o5 k.c5 k.bd) rfl rfl (by decide +kernel) rfl (by decide) (Nat.le_of_ble_eq_true rfl) rfl ⟨Nat.zero_le _, Nat.zero_le _⟩ ?_
        refine EV_blk (own := 11) C rfl [(.aload_n 0, 0, 0, 0, 0), (.getfield 12, 11, 0, 368, 0), (.iload_n 1, 0, 0, 0, 0), (.iload_n 2, 0, 0, 0, 0), (.iload_n 3, 0, 0, 0, 0)] (pc' := 51) (by decide +kernel) (lv' := [some (.ref 0), some (.int (nI (tq_N W))), some (.int (nI (tq_N H))), some (.int t)]) (st' := [.int t, .int (nI (tq_N H)), .int (nI (tq_N W)), .ref 1]) (I' := (tq_rec I o c)) (J' := J) rfl ?_
        refine EV_cV (own := 11) (idx := 61) (μ' := mX8_startMap) (b := 1) (cb := 8) (av := [.int (nI (tq_N W)), .int (nI (tq_N H)), .int t]) (rest := []) C hR rfl (Or.inl ⟨345, by decide⟩) kX8_startMap sX8_startMap (c_X8_startMap g rest (tq_rec I o c) J (tq_N W) (tq_N H) t (by omega) (by omega)) rfl rfl (by decide +kernel) rfl (by decide) (Nat.le_of_ble_eq_true rfl) rfl ⟨Nat.zero_le _, Nat.zero_le _⟩ ?_
        refine EV_blk (own := 11) C rfl [(.iload_n 1, 0, 0, 0, 0), (.iload_n 2, 0, 0, 0, 0), (.imul, 0, 0, 0, 0)] (pc' := 57) (by decide +kernel) (lv' := [some (.ref 0), some (.int (nI (tq_N W))), some (.int (nI (tq_N H))), some (.int t)]) (st' := [.int ((nI (tq_N W)) * (nI (tq_N H)))]) (I' := (I_X8_startMap (tq_rec I o c) (tq_N W) (tq_N H) t)) (J' := J) rfl ?_
        exact EV_iret C hZ rfl (by decide +kernel) (Nat.le_refl _) (Nat.le_refl _) ⟨tq_some (by simp only [r_X11_begin, if_neg h1, if_neg h2, if_neg h3]), rfl, rfl, by simp only [I_X11_begin, if_neg h1, if_neg h2, if_neg h3], rfl⟩
      · skip
        refine EV_blk (own := 11) C rfl [(.bipush (-3), 0, 0, 0, (-3))] (pc' := 32) (by decide +kernel) (lv' := [some (.ref 0), some (.int W), some (.int H), some (.int t)]) (st' := [.int (-3)]) (I' := I) (J' := J) rfl ?_
        exact EV_iret C hZ rfl (by decide +kernel) (Nat.le_refl _) (Nat.le_refl _) ⟨tq_some (by simp only [r_X11_begin, if_neg h1, if_neg h2, if_pos h3]), rfl, rfl, by simp only [I_X11_begin, if_neg h1, if_neg h2, if_pos h3], rfl⟩
  · skip
    refine EV_blk (own := 11) C rfl [(.bipush (-2), 0, 0, 0, (-2))] (pc' := 9) (by decide +kernel) (lv' := [some (.ref 0), some (.int W), some (.int H), some (.int t)]) (st' := [.int (-2)]) (I' := I) (J' := J) rfl ?_
    exact EV_iret C hZ rfl (by decide +kernel) (Nat.le_refl _) (Nat.le_refl _) ⟨tq_some (by simp only [r_X11_begin, if_pos h1]), rfl, rfl, by simp only [I_X11_begin, if_pos h1], rfl⟩
theorem tq_w8 {v : Int32} (h : (nI 1).toInt ≤ v.toInt ∧ v.toInt ≤ (nI 8).toInt) : 0 ≤ v.toInt ∧ 1 ≤ tq_N v ∧ tq_N v ≤ 8 := by
  have e1 : (nI 1).toInt = 1 := by decide
  have e2 : (nI 8).toInt = 8 := by decide
  unfold tq_N
  omega
theorem tq_w15 {v : Int32} (h : (nI 1).toInt ≤ v.toInt ∧ v.toInt ≤ (nI 15).toInt) : 0 ≤ v.toInt ∧ 1 ≤ tq_N v ∧ tq_N v ≤ 15 := by
  have e1 : (nI 1).toInt = 1 := by decide
  have e2 : (nI 15).toInt = 15 := by decide
  unfold tq_N
  omega
def I_X11_touchAllIf (I : tq_I) (b : Int32) (w h : Nat) : tq_I := (if b = 0 then I else (I_X8_touchAll I w h))
set_option maxRecDepth 20000 in
theorem c_X11_touchAllIf (g : tq_G) (rest : List tq_S) (I : tq_I) (J : Int64) (b : Int32) (w h : Nat) (hw : I 2 0 = nI w) (hh : I 2 1 = nI h) (hw10 : w ≤ 10) (hh10 : h ≤ 10) : CT g mX11_touchAllIf 3 0 0 [.ref 0, .int b] (tq_SC ++ rest) tq_RR I J (tq_ret (tq_SC ++ rest) tq_RR none (I_X11_touchAllIf I b w h) J) := by
  refine CT.ret kX11_touchAllIf (Nat.le_of_ble_eq_true rfl) (fun x0 C hR hZ => ?_)
  refine EV_en (lv' := [some (.ref 0), some (.int b)]) 0 rfl ?_
  refine EV_blk (own := 11) C rfl [(.iload_n 1, 0, 0, 0, 0)] (pc' := 1) (by decide +kernel) (lv' := [some (.ref 0), some (.int b)]) (st' := [.int b]) (I' := I) (J' := J) rfl ?_
  refine EV_if_eq (off := 10) (tgt := 11) C (by decide +kernel) (by decide) (fun h1 => ?_) (fun h1 => ?_)
  · skip
    exact EV_vret C hZ rfl (by decide +kernel) (Nat.le_refl _) (Nat.le_refl _) ⟨rfl, rfl, rfl, by simp only [I_X11_touchAllIf, if_pos h1], rfl⟩
  · skip
    refine EV_blk (own := 11) C rfl [(.aload_n 0, 0, 0, 0, 0), (.getfield 12, 11, 0, 368, 0)] (pc' := 8) (by decide +kernel) (lv' := [some (.ref 0), some (.int b)]) (st' := [.ref 1]) (I' := I) (J' := J) rfl ?_
    refine EV_cV (own := 11) (idx := 315) (μ' := mX8_touchAll) (b := 1) (cb := 8) (av := []) (rest := []) C hR rfl (Or.inl ⟨594, by decide⟩) kX8_touchAll sX8_touchAll (c_X8_touchAll g rest I J w h hw hh hw10 hh10) rfl rfl (by decide +kernel) rfl (by decide) (Nat.le_of_ble_eq_true rfl) rfl ⟨Nat.zero_le _, Nat.zero_le _⟩ ?_
    exact EV_vret C hZ rfl (by decide +kernel) (Nat.le_refl _) (Nat.le_refl _) ⟨rfl, rfl, rfl, by simp only [I_X11_touchAllIf, if_neg h1], rfl⟩
theorem fr_X11_touchAllIf (I : tq_I) (b : Int32) (w h : Nat) {cz : Nat} (hc : cz ≠ 16) (jz : Nat) : I_X11_touchAllIf I b w h cz jz = I cz jz := by
  have hc0 := hc
  simp only [I_X11_touchAllIf]
  (repeat' split) <;> simp (disch := first | assumption | (simp only [ne_eq] at *; simp [*])) [tq_u, tq_cp, hc0, fr_tb1, fr_tb2, fr_X8_touchBlock, fr_X8_touchAll, fr_X8_changeCorner, fr_X8_changePath, fr_cb1, fr_cb2, fr_X8_changeBlock, fr_wipe1, fr_X1_wipe, fr_sm1, fr_sm2, fr_X8_startMap, fr_X6_place, fr_mt1, fr_mt2, fr_X6_moveTo, fr_ch2, fr_X10_choose, fr_X1_take, fr_fgt1, fr_X5_forget, fr_X5_meet, fr_gat1, fr_X5_gather, fr_dl1, fr_dl2, fr_X7_drawLayers, fr_dp1, fr_X7_drawPieces, fr_dr1, fr_X7_draw, fr_X9_add, fr_ac1, fr_X9_addCell, fr_tk0, fr_tk1, fr_tk2, fr_X9_take, fr_append111, fr_append113, fr_X4_acceptRowEnd, fr_X4_acceptNumber, fr_al1, fr_X4_acceptLetter, fr_X4_accept]
def r_X11_setRank (I : tq_I) (t r : Int32) (w h o c L : Nat) : Int32 := (if (tq_b ((nI 0).toInt ≤ t.toInt ∧ t.toInt ≤ (nI 5).toInt)) = 0 then (-2) else (if (tq_b ((nI 0).toInt ≤ r.toInt ∧ r.toInt ≤ (nI 5).toInt)) = 0 then (-3) else (if ((tq_rec I o c) 6 (tq_N t)) = (nI (tq_N r)) then ((tq_rec I o c) 6 (tq_N t)) else ((tq_rec I o c) 6 (tq_N t)))))
def I_X11_setRank (I : tq_I) (t r : Int32) (w h o c L : Nat) : tq_I := (if (tq_b ((nI 0).toInt ≤ t.toInt ∧ t.toInt ≤ (nI 5).toInt)) = 0 then I else (if (tq_b ((nI 0).toInt ≤ r.toInt ∧ r.toInt ≤ (nI 5).toInt)) = 0 then I else (if ((tq_rec I o c) 6 (tq_N t)) = (nI (tq_N r)) then (I_X11_touchAllIf (I_X6_moveTo (tq_rec I o c) (tq_N t) (tq_N r) (tq_N ((tq_rec I o c) 6 (tq_N t)))) (nI 0) w h) else (I_X11_touchAllIf (I_X6_moveTo (tq_rec I o c) (tq_N t) (tq_N r) (tq_N ((tq_rec I o c) 6 (tq_N t)))) (nI 1) w h))))
set_option maxRecDepth 20000 in
theorem c_X11_setRank (g : tq_G) (rest : List tq_S) (I : tq_I) (J : Int64) (t r : Int32) (w h o c L : Nat) (k : tq_ok I w h o c L) : CT g mX11_setRank 6 0 0 [.ref 0, .int t, .int r] (tq_SC ++ rest) tq_RR I J (tq_ret (tq_SC ++ rest) tq_RR (some (.int (r_X11_setRank I t r w h o c L))) (I_X11_setRank I t r w h o c L) J) := by
  refine CT.ret kX11_setRank (Nat.le_of_ble_eq_true rfl) (fun x0 C hR hZ => ?_)
  refine EV_en (lv' := [some (.ref 0), some (.int t), some (.int r), none]) 1 rfl ?_
  refine EV_blk (own := 11) C rfl [(.iload_n 1, 0, 0, 0, 0)] (pc' := 1) (by decide +kernel) (lv' := [some (.ref 0), some (.int t), some (.int r), none]) (st' := [.int t]) (I' := I) (J' := J) rfl ?_
  refine EV_cS (own := 11) (idx := 65) (μ' := mX11_isTerrain) (av := [.int t]) (rest := []) C hR rfl (Or.inl ⟨397, by decide⟩) kX11_isTerrain sX11_isTerrain (c_X11_isTerrain g rest I J t ) (by decide +kernel) rfl (by decide) (Nat.le_of_ble_eq_true rfl) rfl ⟨Nat.zero_le _, Nat.zero_le _⟩ ?_
  refine EV_if_ne (off := 6) (tgt := 10) C (by decide +kernel) (by decide) (fun h1 => ?_) (fun h1 => ?_)
  · skip
    have ht := tq_t05 (tq_b10 h1)
    refine EV_blk (own := 11) C rfl [(.iload_n 2, 0, 0, 0, 0), (.iconst 0, 0, 0, 0, (nI 0)), (.iconst 5, 0, 0, 0, (nI 5))] (pc' := 13) (by decide +kernel) (lv' := [some (.ref 0), some (.int t), some (.int r), none]) (st' := [.int (nI 5), .int (nI 0), .int r]) (I' := I) (J' := J) rfl ?_
    refine EV_cS (own := 11) (idx := 69) (μ' := mX11_isWithin) (av := [.int r, .int (nI 0), .int (nI 5)]) (rest := []) C hR rfl (Or.inl ⟨400, by decide⟩) kX11_isWithin sX11_isWithin (c_X11_isWithin g rest I J r (nI 0) (nI 5) ) (by decide +kernel) rfl (by decide) (Nat.le_of_ble_eq_true rfl) rfl ⟨Nat.zero_le _, Nat.zero_le _⟩ ?_
    refine EV_if_ne (off := 6) (tgt := 22) C (by decide +kernel) (by decide) (fun h2 => ?_) (fun h2 => ?_)
    · skip
      have hr := tq_t05 (tq_b10 h2)
      refine EV_lve (lv' := [some (.ref 0), some (.int (nI (tq_N t))), some (.int (nI (tq_N r))), none]) (by rw [← tq_nIN ht.1, ← tq_nIN hr.1]) ?_
      refine EV_blk (own := 11) C rfl [(.aload_n 0, 0, 0, 0, 0), (.getfield 19, 11, 1, 369, 0), (.aload_n 0, 0, 0, 0, 0), (.getfield 12, 11, 0, 368, 0)] (pc' := 30) (by decide +kernel) (lv' := [some (.ref 0), some (.int (nI (tq_N t))), some (.int (nI (tq_N r))), none]) (st' := [.ref 1, .ref 17]) (I' := I) (J' := J) rfl ?_
      refine EV_cV (own := 11) (idx := 73) (μ' := mX2_record) (b := 17) (cb := 2) (av := [.ref 1]) (rest := []) C hR rfl (Or.inl ⟨403, by decide⟩) kX2_record sX2_record (c_X2_record g rest I J o c k.ho k.hc k.o5 k.c5 k.bd) rfl rfl (by decide +kernel) rfl (by decide) (Nat.le_of_ble_eq_true rfl) rfl ⟨Nat.zero_le _, Nat.zero_le _⟩ ?_
      refine EV_blk (own := 11) C rfl [(.aload_n 0, 0, 0, 0, 0), (.getfield 12, 11, 0, 368, 0), (.getfield 135, 8, 1, 196, 0), (.iload_n 1, 0, 0, 0, 0)] (pc' := 41) (by decide +kernel) (lv' := [some (.ref 0), some (.int (nI (tq_N t))), some (.int (nI (tq_N r))), none]) (st' := [.int (nI (tq_N t)), .ref 5]) (I' := (tq_rec I o c)) (J' := J) rfl ?_
      refine EV_cV (own := 11) (idx := 139) (μ' := mX6_rankOf) (b := 5) (cb := 6) (av := [.int (nI (tq_N t))]) (rest := []) C hR rfl (Or.inl ⟨523, by decide⟩) kX6_rankOf sX6_rankOf (c_X6_rankOf g rest (tq_rec I o c) J (tq_N t) (by omega)) rfl rfl (by decide +kernel) rfl (by decide) (Nat.le_of_ble_eq_true rfl) rfl ⟨Nat.zero_le _, Nat.zero_le _⟩ ?_
      refine EV_blk (own := 11) C rfl [(.istore_n 3, 0, 0, 0, 0), (.aload_n 0, 0, 0, 0, 0), (.getfield 12, 11, 0, 368, 0), (.getfield 135, 8, 1, 196, 0), (.iload_n 1, 0, 0, 0, 0), (.iload_n 2, 0, 0, 0, 0)] (pc' := 54) (by decide +kernel) (lv' := [some (.ref 0), some (.int (nI (tq_N t))), some (.int (nI (tq_N r))), some (.int ((tq_rec I o c) 6 (tq_N t)))]) (st' := [.int (nI (tq_N r)), .int (nI (tq_N t)), .ref 5]) (I' := (tq_rec I o c)) (J' := J) rfl ?_
      refine EV_cV (own := 11) (idx := 173) (μ' := mX6_moveTo) (b := 5) (cb := 6) (av := [.int (nI (tq_N t)), .int (nI (tq_N r))]) (rest := []) C hR rfl (Or.inl ⟨586, by decide⟩) kX6_moveTo sX6_moveTo (c_X6_moveTo g rest (tq_rec I o c) J (tq_N t) (tq_N r) (tq_N ((tq_rec I o c) 6 (tq_N t))) (by omega) (by omega) (tq_N5 (k.rec.r6 (tq_N t) (by omega))) (tq_nIN (k.rec.r6 (tq_N t) (by omega)).1) k.rec.r7) rfl rfl (by decide +kernel) rfl (by decide) (Nat.le_of_ble_eq_true rfl) rfl ⟨Nat.zero_le _, Nat.zero_le _⟩ ?_
      refine EV_blk (own := 11) C rfl [(.aload_n 0, 0, 0, 0, 0), (.iload_n 3, 0, 0, 0, 0), (.iload_n 2, 0, 0, 0, 0)] (pc' := 60) (by decide +kernel) (lv' := [some (.ref 0), some (.int (nI (tq_N t))), some (.int (nI (tq_N r))), some (.int ((tq_rec I o c) 6 (tq_N t)))]) (st' := [.int (nI (tq_N r)), .int ((tq_rec I o c) 6 (tq_N t)), .ref 0]) (I' := (I_X6_moveTo (tq_rec I o c) (tq_N t) (tq_N r) (tq_N ((tq_rec I o c) 6 (tq_N t))))) (J' := J) rfl ?_
      refine EV_icmp_eq (off := 7) (tgt := 67) C (by decide +kernel) (by decide) (fun h3 => ?_) (fun h3 => ?_)
      · skip
        refine EV_blk (own := 11) C rfl [(.iconst 0, 0, 0, 0, (nI 0))] (pc' := 68) (by decide +kernel) (lv' := [some (.ref 0), some (.int (nI (tq_N t))), some (.int (nI (tq_N r))), some (.int ((tq_rec I o c) 6 (tq_N t)))]) (st' := [.int (nI 0), .ref 0]) (I' := (I_X6_moveTo (tq_rec I o c) (tq_N t) (tq_N r) (tq_N ((tq_rec I o c) 6 (tq_N t))))) (J' := J) rfl ?_
        refine EV_cV (own := 11) (idx := 177) (μ' := mX11_touchAllIf) (b := 0) (cb := 11) (av := [.int (nI 0)]) (rest := []) C hR rfl (Or.inl ⟨590, by decide⟩) kX11_touchAllIf sX11_touchAllIf (c_X11_touchAllIf g rest (I_X6_moveTo (tq_rec I o c) (tq_N t) (tq_N r) (tq_N ((tq_rec I o c) 6 (tq_N t)))) J (nI 0) w h (by simp (disch := decide) only [fr_rec, fr_X6_moveTo, fr_X10_choose, tq_u_cell]; exact k.hw) (by simp (disch := decide) only [fr_rec, fr_X6_moveTo, fr_X10_choose, tq_u_cell]; exact k.hh) k.w10 k.h10) rfl rfl (by decide +kernel) rfl (by decide) (Nat.le_of_ble_eq_true rfl) rfl ⟨Nat.zero_le _, Nat.zero_le _⟩ ?_
        refine EV_blk (own := 11) C rfl [(.iload_n 3, 0, 0, 0, 0)] (pc' := 72) (by decide +kernel) (lv' := [some (.ref 0), some (.int (nI (tq_N t))), some (.int (nI (tq_N r))), some (.int ((tq_rec I o c) 6 (tq_N t)))]) (st' := [.int ((tq_rec I o c) 6 (tq_N t))]) (I' := (I_X11_touchAllIf (I_X6_moveTo (tq_rec I o c) (tq_N t) (tq_N r) (tq_N ((tq_rec I o c) 6 (tq_N t)))) (nI 0) w h)) (J' := J) rfl ?_
        exact EV_iret C hZ rfl (by decide +kernel) (Nat.le_refl _) (Nat.le_refl _) ⟨tq_some (by simp only [r_X11_setRank, if_neg h1, if_neg h2, if_pos h3]), rfl, rfl, by simp only [I_X11_setRank, if_neg h1, if_neg h2, if_pos h3], rfl⟩
      · skip
        refine EV_blk (own := 11) C rfl [(.iconst 1, 0, 0, 0, (nI 1)), (.goto 4, 0, 0, 0, 0)] (pc' := 68) (by decide +kernel) (lv' := [some (.ref 0), some (.int (nI (tq_N t))), some (.int (nI (tq_N r))), some (.int ((tq_rec I o c) 6 (tq_N t)))]) (st' := [.int (nI 1), .ref 0]) (I' := (I_X6_moveTo (tq_rec I o c) (tq_N t) (tq_N r) (tq_N ((tq_rec I o c) 6 (tq_N t))))) (J' := J) rfl ?_
        refine EV_cV (own := 11) (idx := 177) (μ' := mX11_touchAllIf) (b := 0) (cb := 11) (av := [.int (nI 1)]) (rest := []) C hR rfl (Or.inl ⟨590, by decide⟩) kX11_touchAllIf sX11_touchAllIf (c_X11_touchAllIf g rest (I_X6_moveTo (tq_rec I o c) (tq_N t) (tq_N r) (tq_N ((tq_rec I o c) 6 (tq_N t)))) J (nI 1) w h (by simp (disch := decide) only [fr_rec, fr_X6_moveTo, fr_X10_choose, tq_u_cell]; exact k.hw) (by simp (disch := decide) only [fr_rec, fr_X6_moveTo, fr_X10_choose, tq_u_cell]; exact k.hh) k.w10 k.h10) rfl rfl (by decide +kernel) rfl (by decide) (Nat.le_of_ble_eq_true rfl) rfl ⟨Nat.zero_le _, Nat.zero_le _⟩ ?_
        refine EV_blk (own := 11) C rfl [(.iload_n 3, 0, 0, 0, 0)] (pc' := 72) (by decide +kernel) (lv' := [some (.ref 0), some (.int (nI (tq_N t))), some (.int (nI (tq_N r))), some (.int ((tq_rec I o c) 6 (tq_N t)))]) (st' := [.int ((tq_rec I o c) 6 (tq_N t))]) (I' := (I_X11_touchAllIf (I_X6_moveTo (tq_rec I o c) (tq_N t) (tq_N r) (tq_N ((tq_rec I o c) 6 (tq_N t)))) (nI 1) w h)) (J' := J) rfl ?_
        exact EV_iret C hZ rfl (by decide +kernel) (Nat.le_refl _) (Nat.le_refl _) ⟨tq_some (by simp only [r_X11_setRank, if_neg h1, if_neg h2, if_neg h3]), rfl, rfl, by simp only [I_X11_setRank, if_neg h1, if_neg h2, if_neg h3], rfl⟩
    · skip
      refine EV_blk (own := 11) C rfl [(.bipush (-3), 0, 0, 0, (-3))] (pc' := 21) (by decide +kernel) (lv' := [some (.ref 0), some (.int t), some (.int r), none]) (st' := [.int (-3)]) (I' := I) (J' := J) rfl ?_
      exact EV_iret C hZ rfl (by decide +kernel) (Nat.le_refl _) (Nat.le_refl _) ⟨tq_some (by simp only [r_X11_setRank, if_neg h1, if_pos h2]), rfl, rfl, by simp only [I_X11_setRank, if_neg h1, if_pos h2], rfl⟩
  · skip
    refine EV_blk (own := 11) C rfl [(.bipush (-2), 0, 0, 0, (-2))] (pc' := 9) (by decide +kernel) (lv' := [some (.ref 0), some (.int t), some (.int r), none]) (st' := [.int (-2)]) (I' := I) (J' := J) rfl ?_
    exact EV_iret C hZ rfl (by decide +kernel) (Nat.le_refl _) (Nat.le_refl _) ⟨tq_some (by simp only [r_X11_setRank, if_pos h1]), rfl, rfl, by simp only [I_X11_setRank, if_pos h1], rfl⟩
def r_X11_setTiles (I : tq_I) (t s : Int32) (w h o c L : Nat) : Int32 := (if (tq_b ((nI 0).toInt ≤ t.toInt ∧ t.toInt ≤ (nI 5).toInt)) = 0 then (-2) else (if (tq_b ((nI 0).toInt ≤ s.toInt ∧ s.toInt ≤ (nI 65535).toInt)) = 0 then (-3) else (if ((tq_rec I o c) 10 (tq_N t)) = ((I_X10_choose (tq_rec I o c) (tq_N t) s) 10 (tq_N t)) then ((tq_rec I o c) 10 (tq_N t)) else ((tq_rec I o c) 10 (tq_N t)))))
def I_X11_setTiles (I : tq_I) (t s : Int32) (w h o c L : Nat) : tq_I := (if (tq_b ((nI 0).toInt ≤ t.toInt ∧ t.toInt ≤ (nI 5).toInt)) = 0 then I else (if (tq_b ((nI 0).toInt ≤ s.toInt ∧ s.toInt ≤ (nI 65535).toInt)) = 0 then I else (if ((tq_rec I o c) 10 (tq_N t)) = ((I_X10_choose (tq_rec I o c) (tq_N t) s) 10 (tq_N t)) then (I_X11_touchAllIf (I_X10_choose (tq_rec I o c) (tq_N t) s) (nI 0) w h) else (I_X11_touchAllIf (I_X10_choose (tq_rec I o c) (tq_N t) s) (nI 1) w h))))
set_option maxRecDepth 20000 in
theorem c_X11_setTiles (g : tq_G) (rest : List tq_S) (I : tq_I) (J : Int64) (t s : Int32) (w h o c L : Nat) (k : tq_ok I w h o c L) : CT g mX11_setTiles 7 0 0 [.ref 0, .int t, .int s] (tq_SC ++ rest) tq_RR I J (tq_ret (tq_SC ++ rest) tq_RR (some (.int (r_X11_setTiles I t s w h o c L))) (I_X11_setTiles I t s w h o c L) J) := by
  refine CT.ret kX11_setTiles (Nat.le_of_ble_eq_true rfl) (fun x0 C hR hZ => ?_)
  refine EV_en (lv' := [some (.ref 0), some (.int t), some (.int s), none]) 1 rfl ?_
  refine EV_blk (own := 11) C rfl [(.iload_n 1, 0, 0, 0, 0)] (pc' := 1) (by decide +kernel) (lv' := [some (.ref 0), some (.int t), some (.int s), none]) (st' := [.int t]) (I' := I) (J' := J) rfl ?_
  refine EV_cS (own := 11) (idx := 65) (μ' := mX11_isTerrain) (av := [.int t]) (rest := []) C hR rfl (Or.inl ⟨397, by decide⟩) kX11_isTerrain sX11_isTerrain (c_X11_isTerrain g rest I J t ) (by decide +kernel) rfl (by decide) (Nat.le_of_ble_eq_true rfl) rfl ⟨Nat.zero_le _, Nat.zero_le _⟩ ?_
  refine EV_if_ne (off := 6) (tgt := 10) C (by decide +kernel) (by decide) (fun h1 => ?_) (fun h1 => ?_)
  · skip
    have ht := tq_t05 (tq_b10 h1)
    refine EV_blk (own := 11) C rfl [(.iload_n 2, 0, 0, 0, 0), (.iconst 0, 0, 0, 0, (nI 0)), (.ldc 181, 0, 0, 603, (nI 65535))] (pc' := 14) (by decide +kernel) (lv' := [some (.ref 0), some (.int t), some (.int s), none]) (st' := [.int (nI 65535), .int (nI 0), .int s]) (I' := I) (J' := J) rfl ?_
    refine EV_cS (own := 11) (idx := 69) (μ' := mX11_isWithin) (av := [.int s, .int (nI 0), .int (nI 65535)]) (rest := []) C hR rfl (Or.inl ⟨400, by decide⟩) kX11_isWithin sX11_isWithin (c_X11_isWithin g rest I J s (nI 0) (nI 65535) ) (by decide +kernel) rfl (by decide) (Nat.le_of_ble_eq_true rfl) rfl ⟨Nat.zero_le _, Nat.zero_le _⟩ ?_
    refine EV_if_ne (off := 6) (tgt := 23) C (by decide +kernel) (by decide) (fun h2 => ?_) (fun h2 => ?_)
    · skip
      refine EV_lve (lv' := [some (.ref 0), some (.int (nI (tq_N t))), some (.int s), none]) (by rw [← tq_nIN ht.1]) ?_
      refine EV_blk (own := 11) C rfl [(.aload_n 0, 0, 0, 0, 0), (.getfield 19, 11, 1, 369, 0), (.aload_n 0, 0, 0, 0, 0), (.getfield 12, 11, 0, 368, 0)] (pc' := 31) (by decide +kernel) (lv' := [some (.ref 0), some (.int (nI (tq_N t))), some (.int s), none]) (st' := [.ref 1, .ref 17]) (I' := I) (J' := J) rfl ?_
      refine EV_cV (own := 11) (idx := 73) (μ' := mX2_record) (b := 17) (cb := 2) (av := [.ref 1]) (rest := []) C hR rfl (Or.inl ⟨403, by decide⟩) kX2_record sX2_record (c_X2_record g rest I J o c k.ho k.hc k.o5 k.c5 k.bd) rfl rfl (by decide +kernel) rfl (by decide) (Nat.le_of_ble_eq_true rfl) rfl ⟨Nat.zero_le _, Nat.zero_le _⟩ ?_
      refine EV_blk (own := 11) C rfl [(.aload_n 0, 0, 0, 0, 0), (.getfield 12, 11, 0, 368, 0), (.getfield 135, 8, 1, 196, 0), (.getfield 182, 6, 3, 148, 0), (.iload_n 1, 0, 0, 0, 0)] (pc' := 45) (by decide +kernel) (lv' := [some (.ref 0), some (.int (nI (tq_N t))), some (.int s), none]) (st' := [.int (nI (tq_N t)), .ref 9]) (I' := (tq_rec I o c)) (J' := J) rfl ?_
      refine EV_cV (own := 11) (idx := 186) (μ' := mX10_setOf) (b := 9) (cb := 10) (av := [.int (nI (tq_N t))]) (rest := []) C hR rfl (Or.inl ⟨604, by decide⟩) kX10_setOf sX10_setOf (c_X10_setOf g rest (tq_rec I o c) J (tq_N t) (by omega)) rfl rfl (by decide +kernel) rfl (by decide) (Nat.le_of_ble_eq_true rfl) rfl ⟨Nat.zero_le _, Nat.zero_le _⟩ ?_
      refine EV_blk (own := 11) C rfl [(.istore_n 3, 0, 0, 0, 0), (.aload_n 0, 0, 0, 0, 0), (.getfield 12, 11, 0, 368, 0), (.getfield 135, 8, 1, 196, 0), (.getfield 182, 6, 3, 148, 0), (.iload_n 1, 0, 0, 0, 0), (.iload_n 2, 0, 0, 0, 0)] (pc' := 61) (by decide +kernel) (lv' := [some (.ref 0), some (.int (nI (tq_N t))), some (.int s), some (.int ((tq_rec I o c) 10 (tq_N t)))]) (st' := [.int s, .int (nI (tq_N t)), .ref 9]) (I' := (tq_rec I o c)) (J' := J) rfl ?_
      refine EV_cV (own := 11) (idx := 191) (μ' := mX10_choose) (b := 9) (cb := 10) (av := [.int (nI (tq_N t)), .int s]) (rest := []) C hR rfl (Or.inl ⟨608, by decide⟩) kX10_choose sX10_choose (c_X10_choose g rest (tq_rec I o c) J (tq_N t) s (by omega)) rfl rfl (by decide +kernel) rfl (by decide) (Nat.le_of_ble_eq_true rfl) rfl ⟨Nat.zero_le _, Nat.zero_le _⟩ ?_
      refine EV_blk (own := 11) C rfl [(.aload_n 0, 0, 0, 0, 0), (.iload_n 3, 0, 0, 0, 0), (.aload_n 0, 0, 0, 0, 0), (.getfield 12, 11, 0, 368, 0), (.getfield 135, 8, 1, 196, 0), (.getfield 182, 6, 3, 148, 0), (.iload_n 1, 0, 0, 0, 0)] (pc' := 77) (by decide +kernel) (lv' := [some (.ref 0), some (.int (nI (tq_N t))), some (.int s), some (.int ((tq_rec I o c) 10 (tq_N t)))]) (st' := [.int (nI (tq_N t)), .ref 9, .int ((tq_rec I o c) 10 (tq_N t)), .ref 0]) (I' := (I_X10_choose (tq_rec I o c) (tq_N t) s)) (J' := J) rfl ?_
      refine EV_cV (own := 11) (idx := 186) (μ' := mX10_setOf) (b := 9) (cb := 10) (av := [.int (nI (tq_N t))]) (rest := [.int ((tq_rec I o c) 10 (tq_N t)), .ref 0]) C hR rfl (Or.inl ⟨604, by decide⟩) kX10_setOf sX10_setOf (c_X10_setOf g rest (I_X10_choose (tq_rec I o c) (tq_N t) s) J (tq_N t) (by omega)) rfl rfl (by decide +kernel) rfl (by decide) (Nat.le_of_ble_eq_true rfl) rfl ⟨Nat.zero_le _, Nat.zero_le _⟩ ?_
      refine EV_icmp_eq (off := 7) (tgt := 87) C (by decide +kernel) (by decide) (fun h3 => ?_) (fun h3 => ?_)
      · skip
        refine EV_blk (own := 11) C rfl [(.iconst 0, 0, 0, 0, (nI 0))] (pc' := 88) (by decide +kernel) (lv' := [some (.ref 0), some (.int (nI (tq_N t))), some (.int s), some (.int ((tq_rec I o c) 10 (tq_N t)))]) (st' := [.int (nI 0), .ref 0]) (I' := (I_X10_choose (tq_rec I o c) (tq_N t) s)) (J' := J) rfl ?_
        refine EV_cV (own := 11) (idx := 177) (μ' := mX11_touchAllIf) (b := 0) (cb := 11) (av := [.int (nI 0)]) (rest := []) C hR rfl (Or.inl ⟨590, by decide⟩) kX11_touchAllIf sX11_touchAllIf (c_X11_touchAllIf g rest (I_X10_choose (tq_rec I o c) (tq_N t) s) J (nI 0) w h (by simp (disch := decide) only [fr_rec, fr_X6_moveTo, fr_X10_choose, tq_u_cell]; exact k.hw) (by simp (disch := decide) only [fr_rec, fr_X6_moveTo, fr_X10_choose, tq_u_cell]; exact k.hh) k.w10 k.h10) rfl rfl (by decide +kernel) rfl (by decide) (Nat.le_of_ble_eq_true rfl) rfl ⟨Nat.zero_le _, Nat.zero_le _⟩ ?_
        refine EV_blk (own := 11) C rfl [(.iload_n 3, 0, 0, 0, 0)] (pc' := 92) (by decide +kernel) (lv' := [some (.ref 0), some (.int (nI (tq_N t))), some (.int s), some (.int ((tq_rec I o c) 10 (tq_N t)))]) (st' := [.int ((tq_rec I o c) 10 (tq_N t))]) (I' := (I_X11_touchAllIf (I_X10_choose (tq_rec I o c) (tq_N t) s) (nI 0) w h)) (J' := J) rfl ?_
        exact EV_iret C hZ rfl (by decide +kernel) (Nat.le_refl _) (Nat.le_refl _) ⟨tq_some (by simp only [r_X11_setTiles, if_neg h1, if_neg h2, if_pos h3]), rfl, rfl, by simp only [I_X11_setTiles, if_neg h1, if_neg h2, if_pos h3], rfl⟩
      · skip
        refine EV_blk (own := 11) C rfl [(.iconst 1, 0, 0, 0, (nI 1)), (.goto 4, 0, 0, 0, 0)] (pc' := 88) (by decide +kernel) (lv' := [some (.ref 0), some (.int (nI (tq_N t))), some (.int s), some (.int ((tq_rec I o c) 10 (tq_N t)))]) (st' := [.int (nI 1), .ref 0]) (I' := (I_X10_choose (tq_rec I o c) (tq_N t) s)) (J' := J) rfl ?_
        refine EV_cV (own := 11) (idx := 177) (μ' := mX11_touchAllIf) (b := 0) (cb := 11) (av := [.int (nI 1)]) (rest := []) C hR rfl (Or.inl ⟨590, by decide⟩) kX11_touchAllIf sX11_touchAllIf (c_X11_touchAllIf g rest (I_X10_choose (tq_rec I o c) (tq_N t) s) J (nI 1) w h (by simp (disch := decide) only [fr_rec, fr_X6_moveTo, fr_X10_choose, tq_u_cell]; exact k.hw) (by simp (disch := decide) only [fr_rec, fr_X6_moveTo, fr_X10_choose, tq_u_cell]; exact k.hh) k.w10 k.h10) rfl rfl (by decide +kernel) rfl (by decide) (Nat.le_of_ble_eq_true rfl) rfl ⟨Nat.zero_le _, Nat.zero_le _⟩ ?_
        refine EV_blk (own := 11) C rfl [(.iload_n 3, 0, 0, 0, 0)] (pc' := 92) (by decide +kernel) (lv' := [some (.ref 0), some (.int (nI (tq_N t))), some (.int s), some (.int ((tq_rec I o c) 10 (tq_N t)))]) (st' := [.int ((tq_rec I o c) 10 (tq_N t))]) (I' := (I_X11_touchAllIf (I_X10_choose (tq_rec I o c) (tq_N t) s) (nI 1) w h)) (J' := J) rfl ?_
        exact EV_iret C hZ rfl (by decide +kernel) (Nat.le_refl _) (Nat.le_refl _) ⟨tq_some (by simp only [r_X11_setTiles, if_neg h1, if_neg h2, if_neg h3]), rfl, rfl, by simp only [I_X11_setTiles, if_neg h1, if_neg h2, if_neg h3], rfl⟩
    · skip
      refine EV_blk (own := 11) C rfl [(.bipush (-3), 0, 0, 0, (-3))] (pc' := 22) (by decide +kernel) (lv' := [some (.ref 0), some (.int t), some (.int s), none]) (st' := [.int (-3)]) (I' := I) (J' := J) rfl ?_
      exact EV_iret C hZ rfl (by decide +kernel) (Nat.le_refl _) (Nat.le_refl _) ⟨tq_some (by simp only [r_X11_setTiles, if_neg h1, if_pos h2]), rfl, rfl, by simp only [I_X11_setTiles, if_neg h1, if_pos h2], rfl⟩
  · skip
    refine EV_blk (own := 11) C rfl [(.bipush (-2), 0, 0, 0, (-2))] (pc' := 9) (by decide +kernel) (lv' := [some (.ref 0), some (.int t), some (.int s), none]) (st' := [.int (-2)]) (I' := I) (J' := J) rfl ?_
    exact EV_iret C hZ rfl (by decide +kernel) (Nat.le_refl _) (Nat.le_refl _) ⟨tq_some (by simp only [r_X11_setTiles, if_pos h1]), rfl, rfl, by simp only [I_X11_setTiles, if_pos h1], rfl⟩
def r_X11_setVariants (I : tq_I) (t v : Int32) (w h o c L : Nat) : Int32 := (if (tq_b ((nI 0).toInt ≤ t.toInt ∧ t.toInt ≤ (nI 5).toInt)) = 0 then (-2) else (if (tq_b ((nI 1).toInt ≤ v.toInt ∧ v.toInt ≤ (nI 8).toInt)) = 0 then (-3) else (if ((tq_rec I o c) 8 (tq_N t)) = v then ((tq_rec I o c) 8 (tq_N t)) else ((tq_rec I o c) 8 (tq_N t)))))
def I_X11_setVariants (I : tq_I) (t v : Int32) (w h o c L : Nat) : tq_I := (if (tq_b ((nI 0).toInt ≤ t.toInt ∧ t.toInt ≤ (nI 5).toInt)) = 0 then I else (if (tq_b ((nI 1).toInt ≤ v.toInt ∧ v.toInt ≤ (nI 8).toInt)) = 0 then I else (if ((tq_rec I o c) 8 (tq_N t)) = v then (I_X11_touchAllIf (tq_u (tq_rec I o c) 8 (tq_N t) v) (nI 0) w h) else (I_X11_touchAllIf (tq_u (tq_rec I o c) 8 (tq_N t) v) (nI 1) w h))))
set_option maxRecDepth 20000 in
theorem c_X11_setVariants (g : tq_G) (rest : List tq_S) (I : tq_I) (J : Int64) (t v : Int32) (w h o c L : Nat) (k : tq_ok I w h o c L) : CT g mX11_setVariants 6 0 0 [.ref 0, .int t, .int v] (tq_SC ++ rest) tq_RR I J (tq_ret (tq_SC ++ rest) tq_RR (some (.int (r_X11_setVariants I t v w h o c L))) (I_X11_setVariants I t v w h o c L) J) := by
  refine CT.ret kX11_setVariants (Nat.le_of_ble_eq_true rfl) (fun x0 C hR hZ => ?_)
  refine EV_en (lv' := [some (.ref 0), some (.int t), some (.int v), none]) 1 rfl ?_
  refine EV_blk (own := 11) C rfl [(.iload_n 1, 0, 0, 0, 0)] (pc' := 1) (by decide +kernel) (lv' := [some (.ref 0), some (.int t), some (.int v), none]) (st' := [.int t]) (I' := I) (J' := J) rfl ?_
  refine EV_cS (own := 11) (idx := 65) (μ' := mX11_isTerrain) (av := [.int t]) (rest := []) C hR rfl (Or.inl ⟨397, by decide⟩) kX11_isTerrain sX11_isTerrain (c_X11_isTerrain g rest I J t ) (by decide +kernel) rfl (by decide) (Nat.le_of_ble_eq_true rfl) rfl ⟨Nat.zero_le _, Nat.zero_le _⟩ ?_
  refine EV_if_ne (off := 6) (tgt := 10) C (by decide +kernel) (by decide) (fun h1 => ?_) (fun h1 => ?_)
  · skip
    have ht := tq_t05 (tq_b10 h1)
    refine EV_blk (own := 11) C rfl [(.iload_n 2, 0, 0, 0, 0), (.iconst 1, 0, 0, 0, (nI 1)), (.bipush 8, 0, 0, 0, (nI 8))] (pc' := 14) (by decide +kernel) (lv' := [some (.ref 0), some (.int t), some (.int v), none]) (st' := [.int (nI 8), .int (nI 1), .int v]) (I' := I) (J' := J) rfl ?_
    refine EV_cS (own := 11) (idx := 69) (μ' := mX11_isWithin) (av := [.int v, .int (nI 1), .int (nI 8)]) (rest := []) C hR rfl (Or.inl ⟨400, by decide⟩) kX11_isWithin sX11_isWithin (c_X11_isWithin g rest I J v (nI 1) (nI 8) ) (by decide +kernel) rfl (by decide) (Nat.le_of_ble_eq_true rfl) rfl ⟨Nat.zero_le _, Nat.zero_le _⟩ ?_
    refine EV_if_ne (off := 6) (tgt := 23) C (by decide +kernel) (by decide) (fun h2 => ?_) (fun h2 => ?_)
    · skip
      have hv := tq_w8 (tq_b10 h2)
      refine EV_lve (lv' := [some (.ref 0), some (.int (nI (tq_N t))), some (.int v), none]) (by rw [← tq_nIN ht.1]) ?_
      refine EV_blk (own := 11) C rfl [(.aload_n 0, 0, 0, 0, 0), (.getfield 19, 11, 1, 369, 0), (.aload_n 0, 0, 0, 0, 0), (.getfield 12, 11, 0, 368, 0)] (pc' := 31) (by decide +kernel) (lv' := [some (.ref 0), some (.int (nI (tq_N t))), some (.int v), none]) (st' := [.ref 1, .ref 17]) (I' := I) (J' := J) rfl ?_
      refine EV_cV (own := 11) (idx := 73) (μ' := mX2_record) (b := 17) (cb := 2) (av := [.ref 1]) (rest := []) C hR rfl (Or.inl ⟨403, by decide⟩) kX2_record sX2_record (c_X2_record g rest I J o c k.ho k.hc k.o5 k.c5 k.bd) rfl rfl (by decide +kernel) rfl (by decide) (Nat.le_of_ble_eq_true rfl) rfl ⟨Nat.zero_le _, Nat.zero_le _⟩ ?_
      refine EV_blk (own := 11) C rfl [(.aload_n 0, 0, 0, 0, 0), (.getfield 12, 11, 0, 368, 0), (.getfield 135, 8, 1, 196, 0), (.getfield 194, 6, 2, 145, 0), (.iload_n 1, 0, 0, 0, 0)] (pc' := 45) (by decide +kernel) (lv' := [some (.ref 0), some (.int (nI (tq_N t))), some (.int v), none]) (st' := [.int (nI (tq_N t)), .ref 8]) (I' := (tq_rec I o c)) (J' := J) rfl ?_
      refine EV_iald (j := tq_N t) C (by decide +kernel) rfl (nI_toInt (by omega)) (by omega) ?_
      refine EV_blk (own := 11) C rfl [(.istore_n 3, 0, 0, 0, 0), (.aload_n 0, 0, 0, 0, 0), (.getfield 12, 11, 0, 368, 0), (.getfield 135, 8, 1, 196, 0), (.getfield 194, 6, 2, 145, 0), (.iload_n 1, 0, 0, 0, 0), (.iload_n 2, 0, 0, 0, 0)] (pc' := 59) (by decide +kernel) (lv' := [some (.ref 0), some (.int (nI (tq_N t))), some (.int v), some (.int ((tq_rec I o c) 8 (tq_N t)))]) (st' := [.int v, .int (nI (tq_N t)), .ref 8]) (I' := (tq_rec I o c)) (J' := J) rfl ?_
      refine EV_iast (j := tq_N t) C (by decide +kernel) rfl (nI_toInt (by omega)) (by omega) ?_
      refine EV_blk (own := 11) C rfl [(.aload_n 0, 0, 0, 0, 0), (.iload_n 3, 0, 0, 0, 0), (.iload_n 2, 0, 0, 0, 0)] (pc' := 63) (by decide +kernel) (lv' := [some (.ref 0), some (.int (nI (tq_N t))), some (.int v), some (.int ((tq_rec I o c) 8 (tq_N t)))]) (st' := [.int v, .int ((tq_rec I o c) 8 (tq_N t)), .ref 0]) (I' := (tq_u (tq_rec I o c) 8 (tq_N t) v)) (J' := J) rfl ?_
      refine EV_icmp_eq (off := 7) (tgt := 70) C (by decide +kernel) (by decide) (fun h3 => ?_) (fun h3 => ?_)
      · skip
        refine EV_blk (own := 11) C rfl [(.iconst 0, 0, 0, 0, (nI 0))] (pc' := 71) (by decide +kernel) (lv' := [some (.ref 0), some (.int (nI (tq_N t))), some (.int v), some (.int ((tq_rec I o c) 8 (tq_N t)))]) (st' := [.int (nI 0), .ref 0]) (I' := (tq_u (tq_rec I o c) 8 (tq_N t) v)) (J' := J) rfl ?_
        refine EV_cV (own := 11) (idx := 177) (μ' := mX11_touchAllIf) (b := 0) (cb := 11) (av := [.int (nI 0)]) (rest := []) C hR rfl (Or.inl ⟨590, by decide⟩) kX11_touchAllIf sX11_touchAllIf (c_X11_touchAllIf g rest (tq_u (tq_rec I o c) 8 (tq_N t) v) J (nI 0) w h (by simp (disch := decide) only [fr_rec, fr_X6_moveTo, fr_X10_choose, tq_u_cell]; exact k.hw) (by simp (disch := decide) only [fr_rec, fr_X6_moveTo, fr_X10_choose, tq_u_cell]; exact k.hh) k.w10 k.h10) rfl rfl (by decide +kernel) rfl (by decide) (Nat.le_of_ble_eq_true rfl) rfl ⟨Nat.zero_le _, Nat.zero_le _⟩ ?_
        refine EV_blk (own := 11) C rfl [(.iload_n 3, 0, 0, 0, 0)] (pc' := 75) (by decide +kernel) (lv' := [some (.ref 0), some (.int (nI (tq_N t))), some (.int v), some (.int ((tq_rec I o c) 8 (tq_N t)))]) (st' := [.int ((tq_rec I o c) 8 (tq_N t))]) (I' := (I_X11_touchAllIf (tq_u (tq_rec I o c) 8 (tq_N t) v) (nI 0) w h)) (J' := J) rfl ?_
        exact EV_iret C hZ rfl (by decide +kernel) (Nat.le_refl _) (Nat.le_refl _) ⟨tq_some (by simp only [r_X11_setVariants, if_neg h1, if_neg h2, if_pos h3]), rfl, rfl, by simp only [I_X11_setVariants, if_neg h1, if_neg h2, if_pos h3], rfl⟩
      · skip
        refine EV_blk (own := 11) C rfl [(.iconst 1, 0, 0, 0, (nI 1)), (.goto 4, 0, 0, 0, 0)] (pc' := 71) (by decide +kernel) (lv' := [some (.ref 0), some (.int (nI (tq_N t))), some (.int v), some (.int ((tq_rec I o c) 8 (tq_N t)))]) (st' := [.int (nI 1), .ref 0]) (I' := (tq_u (tq_rec I o c) 8 (tq_N t) v)) (J' := J) rfl ?_
        refine EV_cV (own := 11) (idx := 177) (μ' := mX11_touchAllIf) (b := 0) (cb := 11) (av := [.int (nI 1)]) (rest := []) C hR rfl (Or.inl ⟨590, by decide⟩) kX11_touchAllIf sX11_touchAllIf (c_X11_touchAllIf g rest (tq_u (tq_rec I o c) 8 (tq_N t) v) J (nI 1) w h (by simp (disch := decide) only [fr_rec, fr_X6_moveTo, fr_X10_choose, tq_u_cell]; exact k.hw) (by simp (disch := decide) only [fr_rec, fr_X6_moveTo, fr_X10_choose, tq_u_cell]; exact k.hh) k.w10 k.h10) rfl rfl (by decide +kernel) rfl (by decide) (Nat.le_of_ble_eq_true rfl) rfl ⟨Nat.zero_le _, Nat.zero_le _⟩ ?_
        refine EV_blk (own := 11) C rfl [(.iload_n 3, 0, 0, 0, 0)] (pc' := 75) (by decide +kernel) (lv' := [some (.ref 0), some (.int (nI (tq_N t))), some (.int v), some (.int ((tq_rec I o c) 8 (tq_N t)))]) (st' := [.int ((tq_rec I o c) 8 (tq_N t))]) (I' := (I_X11_touchAllIf (tq_u (tq_rec I o c) 8 (tq_N t) v) (nI 1) w h)) (J' := J) rfl ?_
        exact EV_iret C hZ rfl (by decide +kernel) (Nat.le_refl _) (Nat.le_refl _) ⟨tq_some (by simp only [r_X11_setVariants, if_neg h1, if_neg h2, if_neg h3]), rfl, rfl, by simp only [I_X11_setVariants, if_neg h1, if_neg h2, if_neg h3], rfl⟩
    · skip
      refine EV_blk (own := 11) C rfl [(.bipush (-3), 0, 0, 0, (-3))] (pc' := 22) (by decide +kernel) (lv' := [some (.ref 0), some (.int t), some (.int v), none]) (st' := [.int (-3)]) (I' := I) (J' := J) rfl ?_
      exact EV_iret C hZ rfl (by decide +kernel) (Nat.le_refl _) (Nat.le_refl _) ⟨tq_some (by simp only [r_X11_setVariants, if_neg h1, if_pos h2]), rfl, rfl, by simp only [I_X11_setVariants, if_neg h1, if_pos h2], rfl⟩
  · skip
    refine EV_blk (own := 11) C rfl [(.bipush (-2), 0, 0, 0, (-2))] (pc' := 9) (by decide +kernel) (lv' := [some (.ref 0), some (.int t), some (.int v), none]) (st' := [.int (-2)]) (I' := I) (J' := J) rfl ?_
    exact EV_iret C hZ rfl (by decide +kernel) (Nat.le_refl _) (Nat.le_refl _) ⟨tq_some (by simp only [r_X11_setVariants, if_pos h1]), rfl, rfl, by simp only [I_X11_setVariants, if_pos h1], rfl⟩
def r_X11_setSeed (I : tq_I) (s : Int32) (w h o c L : Nat) : Int32 := (if ((tq_rec I o c) 5 4) = s then (nI 0) else (nI 1))
def I_X11_setSeed (I : tq_I) (s : Int32) (w h o c L : Nat) : tq_I := (if ((tq_rec I o c) 5 4) = s then (I_X11_touchAllIf (tq_u (tq_rec I o c) 5 4 s) (nI 0) w h) else (I_X11_touchAllIf (tq_u (tq_rec I o c) 5 4 s) (nI 1) w h))
set_option maxRecDepth 20000 in
theorem c_X11_setSeed (g : tq_G) (rest : List tq_S) (I : tq_I) (J : Int64) (s : Int32) (w h o c L : Nat) (k : tq_ok I w h o c L) : CT g mX11_setSeed 6 0 0 [.ref 0, .int s] (tq_SC ++ rest) tq_RR I J (tq_ret (tq_SC ++ rest) tq_RR (some (.int (r_X11_setSeed I s w h o c L))) (I_X11_setSeed I s w h o c L) J) := by
  refine CT.ret kX11_setSeed (Nat.le_of_ble_eq_true rfl) (fun x0 C hR hZ => ?_)
  refine EV_en (lv' := [some (.ref 0), some (.int s), none]) 1 rfl ?_
  refine EV_blk (own := 11) C rfl [(.aload_n 0, 0, 0, 0, 0), (.getfield 19, 11, 1, 369, 0), (.aload_n 0, 0, 0, 0, 0), (.getfield 12, 11, 0, 368, 0)] (pc' := 8) (by decide +kernel) (lv' := [some (.ref 0), some (.int s), none]) (st' := [.ref 1, .ref 17]) (I' := I) (J' := J) rfl ?_
  refine EV_cV (own := 11) (idx := 73) (μ' := mX2_record) (b := 17) (cb := 2) (av := [.ref 1]) (rest := []) C hR rfl (Or.inl ⟨403, by decide⟩) kX2_record sX2_record (c_X2_record g rest I J o c k.ho k.hc k.o5 k.c5 k.bd) rfl rfl (by decide +kernel) rfl (by decide) (Nat.le_of_ble_eq_true rfl) rfl ⟨Nat.zero_le _, Nat.zero_le _⟩ ?_
  refine EV_blk (own := 11) C rfl [(.aload_n 0, 0, 0, 0, 0), (.getfield 12, 11, 0, 368, 0), (.getfield 135, 8, 1, 196, 0), (.getfield 198, 6, 4, 150, 0), (.iload_n 1, 0, 0, 0, 0)] (pc' := 22) (by decide +kernel) (lv' := [some (.ref 0), some (.int s), none]) (st' := [.int s, .int ((tq_rec I o c) 5 4)]) (I' := (tq_rec I o c)) (J' := J) rfl ?_
  refine EV_icmp_eq (off := 7) (tgt := 29) C (by decide +kernel) (by decide) (fun h1 => ?_) (fun h1 => ?_)
  · skip
    refine EV_blk (own := 11) C rfl [(.iconst 0, 0, 0, 0, (nI 0)), (.istore_n 2, 0, 0, 0, 0), (.aload_n 0, 0, 0, 0, 0), (.getfield 12, 11, 0, 368, 0), (.getfield 135, 8, 1, 196, 0), (.iload_n 1, 0, 0, 0, 0), (.putfield 198, 6, 4, 150, 0), (.aload_n 0, 0, 0, 0, 0), (.iload_n 2, 0, 0, 0, 0)] (pc' := 44) (by decide +kernel) (lv' := [some (.ref 0), some (.int s), some (.int (nI 0))]) (st' := [.int (nI 0), .ref 0]) (I' := (tq_u (tq_rec I o c) 5 4 s)) (J' := J) rfl ?_
    refine EV_cV (own := 11) (idx := 177) (μ' := mX11_touchAllIf) (b := 0) (cb := 11) (av := [.int (nI 0)]) (rest := []) C hR rfl (Or.inl ⟨590, by decide⟩) kX11_touchAllIf sX11_touchAllIf (c_X11_touchAllIf g rest (tq_u (tq_rec I o c) 5 4 s) J (nI 0) w h (by simp (disch := decide) only [fr_rec, fr_X6_moveTo, fr_X10_choose, tq_u_cell]; exact k.hw) (by simp (disch := decide) only [fr_rec, fr_X6_moveTo, fr_X10_choose, tq_u_cell]; exact k.hh) k.w10 k.h10) rfl rfl (by decide +kernel) rfl (by decide) (Nat.le_of_ble_eq_true rfl) rfl ⟨Nat.zero_le _, Nat.zero_le _⟩ ?_
    refine EV_blk (own := 11) C rfl [(.iload_n 2, 0, 0, 0, 0)] (pc' := 48) (by decide +kernel) (lv' := [some (.ref 0), some (.int s), some (.int (nI 0))]) (st' := [.int (nI 0)]) (I' := (I_X11_touchAllIf (tq_u (tq_rec I o c) 5 4 s) (nI 0) w h)) (J' := J) rfl ?_
    refine EV_if_eq (off := 7) (tgt := 55) C (by decide +kernel) (by decide) (fun h2 => ?_) (fun h2 => ?_)
    · skip
      refine EV_blk (own := 11) C rfl [(.iconst 0, 0, 0, 0, (nI 0))] (pc' := 56) (by decide +kernel) (lv' := [some (.ref 0), some (.int s), some (.int (nI 0))]) (st' := [.int (nI 0)]) (I' := (I_X11_touchAllIf (tq_u (tq_rec I o c) 5 4 s) (nI 0) w h)) (J' := J) rfl ?_
      exact EV_iret C hZ rfl (by decide +kernel) (Nat.le_refl _) (Nat.le_refl _) ⟨tq_some (by simp only [r_X11_setSeed, if_pos h1, if_pos h2]), rfl, rfl, by simp only [I_X11_setSeed, if_pos h1, if_pos h2], rfl⟩
    · skip
      exact absurd (by decide) h2
  · skip
    refine EV_blk (own := 11) C rfl [(.iconst 1, 0, 0, 0, (nI 1)), (.goto 4, 0, 0, 0, 0), (.istore_n 2, 0, 0, 0, 0), (.aload_n 0, 0, 0, 0, 0), (.getfield 12, 11, 0, 368, 0), (.getfield 135, 8, 1, 196, 0), (.iload_n 1, 0, 0, 0, 0), (.putfield 198, 6, 4, 150, 0), (.aload_n 0, 0, 0, 0, 0), (.iload_n 2, 0, 0, 0, 0)] (pc' := 44) (by decide +kernel) (lv' := [some (.ref 0), some (.int s), some (.int (nI 1))]) (st' := [.int (nI 1), .ref 0]) (I' := (tq_u (tq_rec I o c) 5 4 s)) (J' := J) rfl ?_
    refine EV_cV (own := 11) (idx := 177) (μ' := mX11_touchAllIf) (b := 0) (cb := 11) (av := [.int (nI 1)]) (rest := []) C hR rfl (Or.inl ⟨590, by decide⟩) kX11_touchAllIf sX11_touchAllIf (c_X11_touchAllIf g rest (tq_u (tq_rec I o c) 5 4 s) J (nI 1) w h (by simp (disch := decide) only [fr_rec, fr_X6_moveTo, fr_X10_choose, tq_u_cell]; exact k.hw) (by simp (disch := decide) only [fr_rec, fr_X6_moveTo, fr_X10_choose, tq_u_cell]; exact k.hh) k.w10 k.h10) rfl rfl (by decide +kernel) rfl (by decide) (Nat.le_of_ble_eq_true rfl) rfl ⟨Nat.zero_le _, Nat.zero_le _⟩ ?_
    refine EV_blk (own := 11) C rfl [(.iload_n 2, 0, 0, 0, 0)] (pc' := 48) (by decide +kernel) (lv' := [some (.ref 0), some (.int s), some (.int (nI 1))]) (st' := [.int (nI 1)]) (I' := (I_X11_touchAllIf (tq_u (tq_rec I o c) 5 4 s) (nI 1) w h)) (J' := J) rfl ?_
    refine EV_if_eq (off := 7) (tgt := 55) C (by decide +kernel) (by decide) (fun h3 => ?_) (fun h3 => ?_)
    · skip
      exact absurd h3 (by decide)
    · skip
      refine EV_blk (own := 11) C rfl [(.iconst 1, 0, 0, 0, (nI 1)), (.goto 4, 0, 0, 0, 0)] (pc' := 56) (by decide +kernel) (lv' := [some (.ref 0), some (.int s), some (.int (nI 1))]) (st' := [.int (nI 1)]) (I' := (I_X11_touchAllIf (tq_u (tq_rec I o c) 5 4 s) (nI 1) w h)) (J' := J) rfl ?_
      exact EV_iret C hZ rfl (by decide +kernel) (Nat.le_refl _) (Nat.le_refl _) ⟨tq_some (by simp only [r_X11_setSeed, if_neg h1, if_neg h3]), rfl, rfl, by simp only [I_X11_setSeed, if_neg h1, if_neg h3], rfl⟩
def r_X11_setBorder (I : tq_I) (b : Int32) (w h o c L : Nat) : Int32 := (if ((tq_rec I o c) 5 5) = b then (if ((tq_rec I o c) 5 5) = 0 then (nI 0) else (nI 1)) else (if ((tq_rec I o c) 5 5) = 0 then (nI 0) else (nI 1)))
def I_X11_setBorder (I : tq_I) (b : Int32) (w h o c L : Nat) : tq_I := (if ((tq_rec I o c) 5 5) = b then (if ((tq_rec I o c) 5 5) = 0 then (I_X11_touchAllIf (tq_u (tq_rec I o c) 5 5 b) (nI 0) w h) else (I_X11_touchAllIf (tq_u (tq_rec I o c) 5 5 b) (nI 0) w h)) else (if ((tq_rec I o c) 5 5) = 0 then (I_X11_touchAllIf (tq_u (tq_rec I o c) 5 5 b) (nI 1) w h) else (I_X11_touchAllIf (tq_u (tq_rec I o c) 5 5 b) (nI 1) w h)))
set_option maxRecDepth 20000 in
theorem c_X11_setBorder (g : tq_G) (rest : List tq_S) (I : tq_I) (J : Int64) (b : Int32) (w h o c L : Nat) (k : tq_ok I w h o c L) (hb01 : b = 0 ∨ b = 1) : CT g mX11_setBorder 6 0 0 [.ref 0, .int b] (tq_SC ++ rest) tq_RR I J (tq_ret (tq_SC ++ rest) tq_RR (some (.int (r_X11_setBorder I b w h o c L))) (I_X11_setBorder I b w h o c L) J) := by
  refine CT.ret kX11_setBorder (Nat.le_of_ble_eq_true rfl) (fun x0 C hR hZ => ?_)
  refine EV_en (lv' := [some (.ref 0), some (.int b), none]) 1 rfl ?_
  refine EV_blk (own := 11) C rfl [(.aload_n 0, 0, 0, 0, 0), (.getfield 19, 11, 1, 369, 0), (.aload_n 0, 0, 0, 0, 0), (.getfield 12, 11, 0, 368, 0)] (pc' := 8) (by decide +kernel) (lv' := [some (.ref 0), some (.int b), none]) (st' := [.ref 1, .ref 17]) (I' := I) (J' := J) rfl ?_
  refine EV_cV (own := 11) (idx := 73) (μ' := mX2_record) (b := 17) (cb := 2) (av := [.ref 1]) (rest := []) C hR rfl (Or.inl ⟨403, by decide⟩) kX2_record sX2_record (c_X2_record g rest I J o c k.ho k.hc k.o5 k.c5 k.bd) rfl rfl (by decide +kernel) rfl (by decide) (Nat.le_of_ble_eq_true rfl) rfl ⟨Nat.zero_le _, Nat.zero_le _⟩ ?_
  refine EV_blk (own := 11) C rfl [(.aload_n 0, 0, 0, 0, 0), (.getfield 12, 11, 0, 368, 0), (.getfield 135, 8, 1, 196, 0), (.getfield 162, 6, 5, 153, 0), (.istore_n 2, 0, 0, 0, 0), (.aload_n 0, 0, 0, 0, 0), (.getfield 12, 11, 0, 368, 0), (.getfield 135, 8, 1, 196, 0), (.iload_n 1, 0, 0, 0, 0)] (pc' := 30) (by decide +kernel) (lv' := [some (.ref 0), some (.int b), some (.int ((tq_rec I o c) 5 5))]) (st' := [.int b, .ref 5]) (I' := (tq_rec I o c)) (J' := J) rfl ?_
  refine EV_puti (own := 11) (idx := 162) (c := 6) (j := 5) (pl := 153) C rfl (Or.inr ⟨by decide, rfl⟩) (by decide +kernel) rfl rfl (Or.inr ⟨rfl, hb01⟩) ?_
  refine EV_blk (own := 11) C rfl [(.aload_n 0, 0, 0, 0, 0), (.iload_n 2, 0, 0, 0, 0), (.iload_n 1, 0, 0, 0, 0)] (pc' := 36) (by decide +kernel) (lv' := [some (.ref 0), some (.int b), some (.int ((tq_rec I o c) 5 5))]) (st' := [.int b, .int ((tq_rec I o c) 5 5), .ref 0]) (I' := (tq_u (tq_rec I o c) 5 5 b)) (J' := J) rfl ?_
  refine EV_icmp_eq (off := 7) (tgt := 43) C (by decide +kernel) (by decide) (fun h1 => ?_) (fun h1 => ?_)
  · skip
    refine EV_blk (own := 11) C rfl [(.iconst 0, 0, 0, 0, (nI 0))] (pc' := 44) (by decide +kernel) (lv' := [some (.ref 0), some (.int b), some (.int ((tq_rec I o c) 5 5))]) (st' := [.int (nI 0), .ref 0]) (I' := (tq_u (tq_rec I o c) 5 5 b)) (J' := J) rfl ?_
    refine EV_cV (own := 11) (idx := 177) (μ' := mX11_touchAllIf) (b := 0) (cb := 11) (av := [.int (nI 0)]) (rest := []) C hR rfl (Or.inl ⟨590, by decide⟩) kX11_touchAllIf sX11_touchAllIf (c_X11_touchAllIf g rest (tq_u (tq_rec I o c) 5 5 b) J (nI 0) w h (by simp (disch := decide) only [fr_rec, fr_X6_moveTo, fr_X10_choose, tq_u_cell]; exact k.hw) (by simp (disch := decide) only [fr_rec, fr_X6_moveTo, fr_X10_choose, tq_u_cell]; exact k.hh) k.w10 k.h10) rfl rfl (by decide +kernel) rfl (by decide) (Nat.le_of_ble_eq_true rfl) rfl ⟨Nat.zero_le _, Nat.zero_le _⟩ ?_
    refine EV_blk (own := 11) C rfl [(.iload_n 2, 0, 0, 0, 0)] (pc' := 48) (by decide +kernel) (lv' := [some (.ref 0), some (.int b), some (.int ((tq_rec I o c) 5 5))]) (st' := [.int ((tq_rec I o c) 5 5)]) (I' := (I_X11_touchAllIf (tq_u (tq_rec I o c) 5 5 b) (nI 0) w h)) (J' := J) rfl ?_
    refine EV_if_eq (off := 7) (tgt := 55) C (by decide +kernel) (by decide) (fun h2 => ?_) (fun h2 => ?_)
    · skip
      refine EV_blk (own := 11) C rfl [(.iconst 0, 0, 0, 0, (nI 0))] (pc' := 56) (by decide +kernel) (lv' := [some (.ref 0), some (.int b), some (.int ((tq_rec I o c) 5 5))]) (st' := [.int (nI 0)]) (I' := (I_X11_touchAllIf (tq_u (tq_rec I o c) 5 5 b) (nI 0) w h)) (J' := J) rfl ?_
      exact EV_iret C hZ rfl (by decide +kernel) (Nat.le_refl _) (Nat.le_refl _) ⟨tq_some (by simp only [r_X11_setBorder, if_pos h1, if_pos h2]), rfl, rfl, by simp only [I_X11_setBorder, if_pos h1, if_pos h2], rfl⟩
    · skip
      refine EV_blk (own := 11) C rfl [(.iconst 1, 0, 0, 0, (nI 1)), (.goto 4, 0, 0, 0, 0)] (pc' := 56) (by decide +kernel) (lv' := [some (.ref 0), some (.int b), some (.int ((tq_rec I o c) 5 5))]) (st' := [.int (nI 1)]) (I' := (I_X11_touchAllIf (tq_u (tq_rec I o c) 5 5 b) (nI 0) w h)) (J' := J) rfl ?_
      exact EV_iret C hZ rfl (by decide +kernel) (Nat.le_refl _) (Nat.le_refl _) ⟨tq_some (by simp only [r_X11_setBorder, if_pos h1, if_neg h2]), rfl, rfl, by simp only [I_X11_setBorder, if_pos h1, if_neg h2], rfl⟩
  · skip
    refine EV_blk (own := 11) C rfl [(.iconst 1, 0, 0, 0, (nI 1)), (.goto 4, 0, 0, 0, 0)] (pc' := 44) (by decide +kernel) (lv' := [some (.ref 0), some (.int b), some (.int ((tq_rec I o c) 5 5))]) (st' := [.int (nI 1), .ref 0]) (I' := (tq_u (tq_rec I o c) 5 5 b)) (J' := J) rfl ?_
    refine EV_cV (own := 11) (idx := 177) (μ' := mX11_touchAllIf) (b := 0) (cb := 11) (av := [.int (nI 1)]) (rest := []) C hR rfl (Or.inl ⟨590, by decide⟩) kX11_touchAllIf sX11_touchAllIf (c_X11_touchAllIf g rest (tq_u (tq_rec I o c) 5 5 b) J (nI 1) w h (by simp (disch := decide) only [fr_rec, fr_X6_moveTo, fr_X10_choose, tq_u_cell]; exact k.hw) (by simp (disch := decide) only [fr_rec, fr_X6_moveTo, fr_X10_choose, tq_u_cell]; exact k.hh) k.w10 k.h10) rfl rfl (by decide +kernel) rfl (by decide) (Nat.le_of_ble_eq_true rfl) rfl ⟨Nat.zero_le _, Nat.zero_le _⟩ ?_
    refine EV_blk (own := 11) C rfl [(.iload_n 2, 0, 0, 0, 0)] (pc' := 48) (by decide +kernel) (lv' := [some (.ref 0), some (.int b), some (.int ((tq_rec I o c) 5 5))]) (st' := [.int ((tq_rec I o c) 5 5)]) (I' := (I_X11_touchAllIf (tq_u (tq_rec I o c) 5 5 b) (nI 1) w h)) (J' := J) rfl ?_
    refine EV_if_eq (off := 7) (tgt := 55) C (by decide +kernel) (by decide) (fun h3 => ?_) (fun h3 => ?_)
    · skip
      refine EV_blk (own := 11) C rfl [(.iconst 0, 0, 0, 0, (nI 0))] (pc' := 56) (by decide +kernel) (lv' := [some (.ref 0), some (.int b), some (.int ((tq_rec I o c) 5 5))]) (st' := [.int (nI 0)]) (I' := (I_X11_touchAllIf (tq_u (tq_rec I o c) 5 5 b) (nI 1) w h)) (J' := J) rfl ?_
      exact EV_iret C hZ rfl (by decide +kernel) (Nat.le_refl _) (Nat.le_refl _) ⟨tq_some (by simp only [r_X11_setBorder, if_neg h1, if_pos h3]), rfl, rfl, by simp only [I_X11_setBorder, if_neg h1, if_pos h3], rfl⟩
    · skip
      refine EV_blk (own := 11) C rfl [(.iconst 1, 0, 0, 0, (nI 1)), (.goto 4, 0, 0, 0, 0)] (pc' := 56) (by decide +kernel) (lv' := [some (.ref 0), some (.int b), some (.int ((tq_rec I o c) 5 5))]) (st' := [.int (nI 1)]) (I' := (I_X11_touchAllIf (tq_u (tq_rec I o c) 5 5 b) (nI 1) w h)) (J' := J) rfl ?_
      exact EV_iret C hZ rfl (by decide +kernel) (Nat.le_refl _) (Nat.le_refl _) ⟨tq_some (by simp only [r_X11_setBorder, if_neg h1, if_neg h3]), rfl, rfl, by simp only [I_X11_setBorder, if_neg h1, if_neg h3], rfl⟩
def r_X11_way (I : tq_I) (t q : Int32) (w h o c L : Nat) : Int32 := (if (tq_b ((nI 0).toInt ≤ t.toInt ∧ t.toInt ≤ (nI 5).toInt)) = 0 then (-2) else (if (tq_b ((nI 1).toInt ≤ q.toInt ∧ q.toInt ≤ (nI 15).toInt)) = 0 then (-3) else (r_X10_wayOf I (tq_N t) (tq_N q))))
set_option maxRecDepth 20000 in
theorem c_X11_way (g : tq_G) (rest : List tq_S) (I : tq_I) (J : Int64) (t q : Int32) (w h o c L : Nat) (k : tq_ok I w h o c L) : CT g mX11_way 2 0 0 [.ref 0, .int t, .int q] (tq_SC ++ rest) tq_RR I J (tq_ret (tq_SC ++ rest) tq_RR (some (.int (r_X11_way I t q w h o c L))) I J) := by
  refine CT.ret kX11_way (Nat.le_of_ble_eq_true rfl) (fun x0 C hR hZ => ?_)
  refine EV_en (lv' := [some (.ref 0), some (.int t), some (.int q)]) 0 rfl ?_
  refine EV_blk (own := 11) C rfl [(.iload_n 1, 0, 0, 0, 0)] (pc' := 1) (by decide +kernel) (lv' := [some (.ref 0), some (.int t), some (.int q)]) (st' := [.int t]) (I' := I) (J' := J) rfl ?_
  refine EV_cS (own := 11) (idx := 65) (μ' := mX11_isTerrain) (av := [.int t]) (rest := []) C hR rfl (Or.inl ⟨397, by decide⟩) kX11_isTerrain sX11_isTerrain (c_X11_isTerrain g rest I J t ) (by decide +kernel) rfl (by decide) (Nat.le_of_ble_eq_true rfl) rfl ⟨Nat.zero_le _, Nat.zero_le _⟩ ?_
  refine EV_if_ne (off := 6) (tgt := 10) C (by decide +kernel) (by decide) (fun h1 => ?_) (fun h1 => ?_)
  · skip
    have ht := tq_t05 (tq_b10 h1)
    refine EV_blk (own := 11) C rfl [(.iload_n 2, 0, 0, 0, 0), (.iconst 1, 0, 0, 0, (nI 1)), (.bipush 15, 0, 0, 0, (nI 15))] (pc' := 14) (by decide +kernel) (lv' := [some (.ref 0), some (.int t), some (.int q)]) (st' := [.int (nI 15), .int (nI 1), .int q]) (I' := I) (J' := J) rfl ?_
    refine EV_cS (own := 11) (idx := 69) (μ' := mX11_isWithin) (av := [.int q, .int (nI 1), .int (nI 15)]) (rest := []) C hR rfl (Or.inl ⟨400, by decide⟩) kX11_isWithin sX11_isWithin (c_X11_isWithin g rest I J q (nI 1) (nI 15) ) (by decide +kernel) rfl (by decide) (Nat.le_of_ble_eq_true rfl) rfl ⟨Nat.zero_le _, Nat.zero_le _⟩ ?_
    refine EV_if_eq (off := 21) (tgt := 38) C (by decide +kernel) (by decide) (fun h2 => ?_) (fun h2 => ?_)
    · skip
      refine EV_blk (own := 11) C rfl [(.bipush (-3), 0, 0, 0, (-3))] (pc' := 40) (by decide +kernel) (lv' := [some (.ref 0), some (.int t), some (.int q)]) (st' := [.int (-3)]) (I' := I) (J' := J) rfl ?_
      exact EV_iret C hZ rfl (by decide +kernel) (Nat.le_refl _) (Nat.le_refl _) ⟨tq_some (by simp only [r_X11_way, if_neg h1, if_pos h2]), rfl, rfl, rfl, rfl⟩
    · skip
      have hq := tq_w15 (tq_b10 h2)
      refine EV_lve (lv' := [some (.ref 0), some (.int (nI (tq_N t))), some (.int (nI (tq_N q)))]) (by rw [← tq_nIN ht.1, ← tq_nIN hq.1]) ?_
      refine EV_blk (own := 11) C rfl [(.aload_n 0, 0, 0, 0, 0), (.getfield 12, 11, 0, 368, 0), (.getfield 135, 8, 1, 196, 0), (.getfield 182, 6, 3, 148, 0), (.iload_n 1, 0, 0, 0, 0), (.iload_n 2, 0, 0, 0, 0)] (pc' := 32) (by decide +kernel) (lv' := [some (.ref 0), some (.int (nI (tq_N t))), some (.int (nI (tq_N q)))]) (st' := [.int (nI (tq_N q)), .int (nI (tq_N t)), .ref 9]) (I' := I) (J' := J) rfl ?_
      refine EV_cV (own := 11) (idx := 201) (μ' := mX10_wayOf) (b := 9) (cb := 10) (av := [.int (nI (tq_N t)), .int (nI (tq_N q))]) (rest := []) C hR rfl (Or.inl ⟨645, by decide⟩) kX10_wayOf sX10_wayOf (c_X10_wayOf g rest I J (tq_N t) (tq_N q) (by omega)) rfl rfl (by decide +kernel) rfl (by decide) (Nat.le_of_ble_eq_true rfl) rfl ⟨Nat.zero_le _, Nat.zero_le _⟩ ?_
      refine EV_blk (own := 11) C rfl [(.goto 5, 0, 0, 0, 0)] (pc' := 40) (by decide +kernel) (lv' := [some (.ref 0), some (.int (nI (tq_N t))), some (.int (nI (tq_N q)))]) (st' := [.int (r_X10_wayOf I (tq_N t) (tq_N q))]) (I' := I) (J' := J) rfl ?_
      exact EV_iret C hZ rfl (by decide +kernel) (Nat.le_refl _) (Nat.le_refl _) ⟨tq_some (by simp only [r_X11_way, if_neg h1, if_neg h2]), rfl, rfl, rfl, rfl⟩
  · skip
    refine EV_blk (own := 11) C rfl [(.bipush (-2), 0, 0, 0, (-2))] (pc' := 9) (by decide +kernel) (lv' := [some (.ref 0), some (.int t), some (.int q)]) (st' := [.int (-2)]) (I' := I) (J' := J) rfl ?_
    exact EV_iret C hZ rfl (by decide +kernel) (Nat.le_refl _) (Nat.le_refl _) ⟨tq_some (by simp only [r_X11_way, if_pos h1]), rfl, rfl, rfl, rfl⟩
def r_J6_bitCount_0f7a4 (v : Int32) : Int32 := ((((((((v - ((tq_ush v (nI 1)) &&& (nI 1431655765))) &&& (nI 858993459)) + ((tq_ush (v - ((tq_ush v (nI 1)) &&& (nI 1431655765))) (nI 2)) &&& (nI 858993459))) + (tq_ush (((v - ((tq_ush v (nI 1)) &&& (nI 1431655765))) &&& (nI 858993459)) + ((tq_ush (v - ((tq_ush v (nI 1)) &&& (nI 1431655765))) (nI 2)) &&& (nI 858993459))) (nI 4))) &&& (nI 252645135)) + (tq_ush (((((v - ((tq_ush v (nI 1)) &&& (nI 1431655765))) &&& (nI 858993459)) + ((tq_ush (v - ((tq_ush v (nI 1)) &&& (nI 1431655765))) (nI 2)) &&& (nI 858993459))) + (tq_ush (((v - ((tq_ush v (nI 1)) &&& (nI 1431655765))) &&& (nI 858993459)) + ((tq_ush (v - ((tq_ush v (nI 1)) &&& (nI 1431655765))) (nI 2)) &&& (nI 858993459))) (nI 4))) &&& (nI 252645135)) (nI 8))) + (tq_ush ((((((v - ((tq_ush v (nI 1)) &&& (nI 1431655765))) &&& (nI 858993459)) + ((tq_ush (v - ((tq_ush v (nI 1)) &&& (nI 1431655765))) (nI 2)) &&& (nI 858993459))) + (tq_ush (((v - ((tq_ush v (nI 1)) &&& (nI 1431655765))) &&& (nI 858993459)) + ((tq_ush (v - ((tq_ush v (nI 1)) &&& (nI 1431655765))) (nI 2)) &&& (nI 858993459))) (nI 4))) &&& (nI 252645135)) + (tq_ush (((((v - ((tq_ush v (nI 1)) &&& (nI 1431655765))) &&& (nI 858993459)) + ((tq_ush (v - ((tq_ush v (nI 1)) &&& (nI 1431655765))) (nI 2)) &&& (nI 858993459))) + (tq_ush (((v - ((tq_ush v (nI 1)) &&& (nI 1431655765))) &&& (nI 858993459)) + ((tq_ush (v - ((tq_ush v (nI 1)) &&& (nI 1431655765))) (nI 2)) &&& (nI 858993459))) (nI 4))) &&& (nI 252645135)) (nI 8))) (nI 16))) &&& (nI 63))
set_option maxRecDepth 20000 in
theorem c_J6_bitCount_0f7a4 (g : tq_G) (rest : List tq_S) (I : tq_I) (J : Int64) (v : Int32)  : CT g mJ6_bitCount_0f7a4 0 0 0 [.int v] (tq_SC ++ rest) tq_RR I J (tq_ret (tq_SC ++ rest) tq_RR (some (.int (r_J6_bitCount_0f7a4 v))) I J) := by
  refine CT.ret kJ6_bitCount_0f7a4 (Nat.le_of_ble_eq_true rfl) (fun x0 C hR hZ => ?_)
  refine EV_en (lv' := [some (.int v)]) 0 rfl ?_
  refine EV_blk (own := 14) C rfl [(.iload_n 0, 0, 0, 0, 0), (.iload_n 0, 0, 0, 0, 0), (.iconst 1, 0, 0, 0, (nI 1)), (.iushr, 0, 0, 0, 0), (.ldc_w 265, 0, 0, 657, (nI 1431655765)), (.iand, 0, 0, 0, 0), (.isub, 0, 0, 0, 0), (.istore_n 0, 0, 0, 0, 0), (.iload_n 0, 0, 0, 0, 0), (.ldc_w 266, 0, 0, 658, (nI 858993459)), (.iand, 0, 0, 0, 0), (.iload_n 0, 0, 0, 0, 0), (.iconst 2, 0, 0, 0, (nI 2)), (.iushr, 0, 0, 0, 0), (.ldc_w 266, 0, 0, 658, (nI 858993459)), (.iand, 0, 0, 0, 0), (.iadd, 0, 0, 0, 0), (.istore_n 0, 0, 0, 0, 0), (.iload_n 0, 0, 0, 0, 0), (.iload_n 0, 0, 0, 0, 0), (.iconst 4, 0, 0, 0, (nI 4)), (.iushr, 0, 0, 0, 0), (.iadd, 0, 0, 0, 0), (.ldc_w 267, 0, 0, 659, (nI 252645135)), (.iand, 0, 0, 0, 0), (.istore_n 0, 0, 0, 0, 0), (.iload_n 0, 0, 0, 0, 0), (.iload_n 0, 0, 0, 0, 0), (.bipush 8, 0, 0, 0, (nI 8)), (.iushr, 0, 0, 0, 0), (.iadd, 0, 0, 0, 0), (.istore_n 0, 0, 0, 0, 0), (.iload_n 0, 0, 0, 0, 0), (.iload_n 0, 0, 0, 0, 0), (.bipush 16, 0, 0, 0, (nI 16)), (.iushr, 0, 0, 0, 0), (.iadd, 0, 0, 0, 0), (.istore_n 0, 0, 0, 0, 0), (.iload_n 0, 0, 0, 0, 0), (.bipush 63, 0, 0, 0, (nI 63)), (.iand, 0, 0, 0, 0)] (pc' := 52) (by decide +kernel) (lv' := [some (.int (((((((v - ((tq_ush v (nI 1)) &&& (nI 1431655765))) &&& (nI 858993459)) + ((tq_ush (v - ((tq_ush v (nI 1)) &&& (nI 1431655765))) (nI 2)) &&& (nI 858993459))) + (tq_ush (((v - ((tq_ush v (nI 1)) &&& (nI 1431655765))) &&& (nI 858993459)) + ((tq_ush (v - ((tq_ush v (nI 1)) &&& (nI 1431655765))) (nI 2)) &&& (nI 858993459))) (nI 4))) &&& (nI 252645135)) + (tq_ush (((((v - ((tq_ush v (nI 1)) &&& (nI 1431655765))) &&& (nI 858993459)) + ((tq_ush (v - ((tq_ush v (nI 1)) &&& (nI 1431655765))) (nI 2)) &&& (nI 858993459))) + (tq_ush (((v - ((tq_ush v (nI 1)) &&& (nI 1431655765))) &&& (nI 858993459)) + ((tq_ush (v - ((tq_ush v (nI 1)) &&& (nI 1431655765))) (nI 2)) &&& (nI 858993459))) (nI 4))) &&& (nI 252645135)) (nI 8))) + (tq_ush ((((((v - ((tq_ush v (nI 1)) &&& (nI 1431655765))) &&& (nI 858993459)) + ((tq_ush (v - ((tq_ush v (nI 1)) &&& (nI 1431655765))) (nI 2)) &&& (nI 858993459))) + (tq_ush (((v - ((tq_ush v (nI 1)) &&& (nI 1431655765))) &&& (nI 858993459)) + ((tq_ush (v - ((tq_ush v (nI 1)) &&& (nI 1431655765))) (nI 2)) &&& (nI 858993459))) (nI 4))) &&& (nI 252645135)) + (tq_ush (((((v - ((tq_ush v (nI 1)) &&& (nI 1431655765))) &&& (nI 858993459)) + ((tq_ush (v - ((tq_ush v (nI 1)) &&& (nI 1431655765))) (nI 2)) &&& (nI 858993459))) + (tq_ush (((v - ((tq_ush v (nI 1)) &&& (nI 1431655765))) &&& (nI 858993459)) + ((tq_ush (v - ((tq_ush v (nI 1)) &&& (nI 1431655765))) (nI 2)) &&& (nI 858993459))) (nI 4))) &&& (nI 252645135)) (nI 8))) (nI 16))))]) (st' := [.int ((((((((v - ((tq_ush v (nI 1)) &&& (nI 1431655765))) &&& (nI 858993459)) + ((tq_ush (v - ((tq_ush v (nI 1)) &&& (nI 1431655765))) (nI 2)) &&& (nI 858993459))) + (tq_ush (((v - ((tq_ush v (nI 1)) &&& (nI 1431655765))) &&& (nI 858993459)) + ((tq_ush (v - ((tq_ush v (nI 1)) &&& (nI 1431655765))) (nI 2)) &&& (nI 858993459))) (nI 4))) &&& (nI 252645135)) + (tq_ush (((((v - ((tq_ush v (nI 1)) &&& (nI 1431655765))) &&& (nI 858993459)) + ((tq_ush (v - ((tq_ush v (nI 1)) &&& (nI 1431655765))) (nI 2)) &&& (nI 858993459))) + (tq_ush (((v - ((tq_ush v (nI 1)) &&& (nI 1431655765))) &&& (nI 858993459)) + ((tq_ush (v - ((tq_ush v (nI 1)) &&& (nI 1431655765))) (nI 2)) &&& (nI 858993459))) (nI 4))) &&& (nI 252645135)) (nI 8))) + (tq_ush ((((((v - ((tq_ush v (nI 1)) &&& (nI 1431655765))) &&& (nI 858993459)) + ((tq_ush (v - ((tq_ush v (nI 1)) &&& (nI 1431655765))) (nI 2)) &&& (nI 858993459))) + (tq_ush (((v - ((tq_ush v (nI 1)) &&& (nI 1431655765))) &&& (nI 858993459)) + ((tq_ush (v - ((tq_ush v (nI 1)) &&& (nI 1431655765))) (nI 2)) &&& (nI 858993459))) (nI 4))) &&& (nI 252645135)) + (tq_ush (((((v - ((tq_ush v (nI 1)) &&& (nI 1431655765))) &&& (nI 858993459)) + ((tq_ush (v - ((tq_ush v (nI 1)) &&& (nI 1431655765))) (nI 2)) &&& (nI 858993459))) + (tq_ush (((v - ((tq_ush v (nI 1)) &&& (nI 1431655765))) &&& (nI 858993459)) + ((tq_ush (v - ((tq_ush v (nI 1)) &&& (nI 1431655765))) (nI 2)) &&& (nI 858993459))) (nI 4))) &&& (nI 252645135)) (nI 8))) (nI 16))) &&& (nI 63))]) (I' := I) (J' := J) rfl ?_
  exact EV_iret C hZ rfl (by decide +kernel) (Nat.le_refl _) (Nat.le_refl _) ⟨tq_some (by simp only [r_J6_bitCount_0f7a4]), rfl, rfl, rfl, rfl⟩
def r_X11_parts (I : tq_I) (t q : Int32) (w h o c L : Nat) : Int32 := (if (tq_b ((nI 0).toInt ≤ t.toInt ∧ t.toInt ≤ (nI 5).toInt)) = 0 then (-2) else (if (tq_b ((nI 1).toInt ≤ q.toInt ∧ q.toInt ≤ (nI 15).toInt)) = 0 then (-3) else (r_J6_bitCount_0f7a4 (I 11 ((tq_N t) * 16 + (tq_N q))))))
set_option maxRecDepth 20000 in
theorem c_X11_parts (g : tq_G) (rest : List tq_S) (I : tq_I) (J : Int64) (t q : Int32) (w h o c L : Nat) (k : tq_ok I w h o c L) : CT g mX11_parts 2 0 0 [.ref 0, .int t, .int q] (tq_SC ++ rest) tq_RR I J (tq_ret (tq_SC ++ rest) tq_RR (some (.int (r_X11_parts I t q w h o c L))) I J) := by
  refine CT.ret kX11_parts (Nat.le_of_ble_eq_true rfl) (fun x0 C hR hZ => ?_)
  refine EV_en (lv' := [some (.ref 0), some (.int t), some (.int q)]) 0 rfl ?_
  refine EV_blk (own := 11) C rfl [(.iload_n 1, 0, 0, 0, 0)] (pc' := 1) (by decide +kernel) (lv' := [some (.ref 0), some (.int t), some (.int q)]) (st' := [.int t]) (I' := I) (J' := J) rfl ?_
  refine EV_cS (own := 11) (idx := 65) (μ' := mX11_isTerrain) (av := [.int t]) (rest := []) C hR rfl (Or.inl ⟨397, by decide⟩) kX11_isTerrain sX11_isTerrain (c_X11_isTerrain g rest I J t ) (by decide +kernel) rfl (by decide) (Nat.le_of_ble_eq_true rfl) rfl ⟨Nat.zero_le _, Nat.zero_le _⟩ ?_
  refine EV_if_ne (off := 6) (tgt := 10) C (by decide +kernel) (by decide) (fun h1 => ?_) (fun h1 => ?_)
  · skip
    have ht := tq_t05 (tq_b10 h1)
    refine EV_blk (own := 11) C rfl [(.iload_n 2, 0, 0, 0, 0), (.iconst 1, 0, 0, 0, (nI 1)), (.bipush 15, 0, 0, 0, (nI 15))] (pc' := 14) (by decide +kernel) (lv' := [some (.ref 0), some (.int t), some (.int q)]) (st' := [.int (nI 15), .int (nI 1), .int q]) (I' := I) (J' := J) rfl ?_
    refine EV_cS (own := 11) (idx := 69) (μ' := mX11_isWithin) (av := [.int q, .int (nI 1), .int (nI 15)]) (rest := []) C hR rfl (Or.inl ⟨400, by decide⟩) kX11_isWithin sX11_isWithin (c_X11_isWithin g rest I J q (nI 1) (nI 15) ) (by decide +kernel) rfl (by decide) (Nat.le_of_ble_eq_true rfl) rfl ⟨Nat.zero_le _, Nat.zero_le _⟩ ?_
    refine EV_if_eq (off := 24) (tgt := 41) C (by decide +kernel) (by decide) (fun h2 => ?_) (fun h2 => ?_)
    · skip
      refine EV_blk (own := 11) C rfl [(.bipush (-3), 0, 0, 0, (-3))] (pc' := 43) (by decide +kernel) (lv' := [some (.ref 0), some (.int t), some (.int q)]) (st' := [.int (-3)]) (I' := I) (J' := J) rfl ?_
      exact EV_iret C hZ rfl (by decide +kernel) (Nat.le_refl _) (Nat.le_refl _) ⟨tq_some (by simp only [r_X11_parts, if_neg h1, if_pos h2]), rfl, rfl, rfl, rfl⟩
    · skip
      have hq := tq_w15 (tq_b10 h2)
      refine EV_lve (lv' := [some (.ref 0), some (.int (nI (tq_N t))), some (.int (nI (tq_N q)))]) (by rw [← tq_nIN ht.1, ← tq_nIN hq.1]) ?_
      refine EV_blk (own := 11) C rfl [(.aload_n 0, 0, 0, 0, 0), (.getfield 12, 11, 0, 368, 0), (.getfield 135, 8, 1, 196, 0), (.getfield 182, 6, 3, 148, 0), (.iload_n 1, 0, 0, 0, 0), (.iload_n 2, 0, 0, 0, 0)] (pc' := 32) (by decide +kernel) (lv' := [some (.ref 0), some (.int (nI (tq_N t))), some (.int (nI (tq_N q)))]) (st' := [.int (nI (tq_N q)), .int (nI (tq_N t)), .ref 9]) (I' := I) (J' := J) rfl ?_
      refine EV_cV (own := 11) (idx := 204) (μ' := mX10_partsOf) (b := 9) (cb := 10) (av := [.int (nI (tq_N t)), .int (nI (tq_N q))]) (rest := []) C hR rfl (Or.inl ⟨650, by decide⟩) kX10_partsOf sX10_partsOf (c_X10_partsOf g rest I J (tq_N t) (tq_N q) (by omega) (by omega)) rfl rfl (by decide +kernel) rfl (by decide) (Nat.le_of_ble_eq_true rfl) rfl ⟨Nat.zero_le _, Nat.zero_le _⟩ ?_
      refine EV_cS (own := 11) (idx := 207) (μ' := mJ6_bitCount_0f7a4) (av := [.int (I 11 ((tq_N t) * 16 + (tq_N q)))]) (rest := []) C hR rfl (Or.inl ⟨654, by decide⟩) kJ6_bitCount_0f7a4 sJ6_bitCount_0f7a4 (c_J6_bitCount_0f7a4 g rest I J (I 11 ((tq_N t) * 16 + (tq_N q))) ) (by decide +kernel) rfl (by decide) (Nat.le_of_ble_eq_true rfl) rfl ⟨Nat.zero_le _, Nat.zero_le _⟩ ?_
      refine EV_blk (own := 11) C rfl [(.goto 5, 0, 0, 0, 0)] (pc' := 43) (by decide +kernel) (lv' := [some (.ref 0), some (.int (nI (tq_N t))), some (.int (nI (tq_N q)))]) (st' := [.int (r_J6_bitCount_0f7a4 (I 11 ((tq_N t) * 16 + (tq_N q))))]) (I' := I) (J' := J) rfl ?_
      exact EV_iret C hZ rfl (by decide +kernel) (Nat.le_refl _) (Nat.le_refl _) ⟨tq_some (by simp only [r_X11_parts, if_neg h1, if_neg h2]), rfl, rfl, rfl, rfl⟩
  · skip
    refine EV_blk (own := 11) C rfl [(.bipush (-2), 0, 0, 0, (-2))] (pc' := 9) (by decide +kernel) (lv' := [some (.ref 0), some (.int t), some (.int q)]) (st' := [.int (-2)]) (I' := I) (J' := J) rfl ?_
    exact EV_iret C hZ rfl (by decide +kernel) (Nat.le_refl _) (Nat.le_refl _) ⟨tq_some (by simp only [r_X11_parts, if_pos h1]), rfl, rfl, rfl, rfl⟩
/-- what a sketch says of its counts -/
theorem tq_draw_ok {I : tq_I} {x y : Nat} (h7 : tq_le5 (I 7)) : (0 ≤ (I_X7_draw I x y 102 5).toInt ∧ (I_X7_draw I x y 102 5).toInt ≤ 7) ∧ (0 ≤ (I_X7_draw I x y 102 3).toInt ∧ (I_X7_draw I x y 102 3).toInt ≤ 4) ∧ ∀ k, k < tq_N (I_X7_draw I x y 102 3) → (0 ≤ (I_X7_draw I x y 104 k).toInt ∧ (I_X7_draw I x y 104 k).toInt ≤ 5) ∧ 0 ≤ (I_X7_draw I x y 105 k).toInt ∧ (I_X7_draw I x y 105 k).toInt ≤ 15 := by
  have h4 := tq_dl4 (x := x) (y := y) h7
  obtain ⟨e1, e2, e3⟩ := tq_drP_it (x := x) (y := y) (tq_N (I_X7_drawLayers I x y 102 3)) 0 _ (tq_drP_0 (x := x) (y := y) h7)
  unfold I_X7_draw
  refine ⟨by rw [tq_u_slot (by decide)]; exact e2, by rw [tq_u_slot (by decide), e1, nI_toInt (by omega)]; omega, fun k hk => ?_⟩
  rw [tq_u_slot (by decide), e1, tq_N_nI (by omega)] at hk
  rw [tq_u_cell (by decide), tq_u_cell (by decide)]
  exact e3 k hk
theorem tq_N7 {v : Int32} (h : 0 ≤ v.toInt ∧ v.toInt ≤ 7) : tq_N v ≤ 7 := by unfold tq_N; omega
def r_X11_layers (I : tq_I) (x y : Int32) (w h o c L : Nat) : Int32 := (if (tq_b (tq_cell I x y)) = 0 then (-2) else ((I_X7_draw I (tq_N x) (tq_N y)) 102 3))
def I_X11_layers (I : tq_I) (x y : Int32) (w h o c L : Nat) : tq_I := (if (tq_b (tq_cell I x y)) = 0 then I else (I_X7_draw I (tq_N x) (tq_N y)))
set_option maxRecDepth 20000 in
theorem c_X11_layers (g : tq_G) (rest : List tq_S) (I : tq_I) (J : Int64) (x y : Int32) (w h o c L : Nat) (k : tq_ok I w h o c L) : CT g mX11_layers 6 0 0 [.ref 0, .int x, .int y] (tq_SC ++ rest) tq_RR I J (tq_ret (tq_SC ++ rest) tq_RR (some (.int (r_X11_layers I x y w h o c L))) (I_X11_layers I x y w h o c L) J) := by
  refine CT.ret kX11_layers (Nat.le_of_ble_eq_true rfl) (fun x0 C hR hZ => ?_)
  refine EV_en (lv' := [some (.ref 0), some (.int x), some (.int y)]) 0 rfl ?_
  refine EV_blk (own := 11) C rfl [(.aload_n 0, 0, 0, 0, 0), (.getfield 12, 11, 0, 368, 0), (.getfield 77, 8, 0, 193, 0), (.iload_n 1, 0, 0, 0, 0), (.iload_n 2, 0, 0, 0, 0)] (pc' := 9) (by decide +kernel) (lv' := [some (.ref 0), some (.int x), some (.int y)]) (st' := [.int y, .int x, .ref 2]) (I' := I) (J' := J) rfl ?_
  refine EV_cV (own := 11) (idx := 153) (μ' := mX3_isCell) (b := 2) (cb := 3) (av := [.int x, .int y]) (rest := []) C hR rfl (Or.inl ⟨543, by decide⟩) kX3_isCell sX3_isCell (c_X3_isCell g rest I J x y ) rfl rfl (by decide +kernel) rfl (by decide) (Nat.le_of_ble_eq_true rfl) rfl ⟨Nat.zero_le _, Nat.zero_le _⟩ ?_
  refine EV_if_ne (off := 6) (tgt := 18) C (by decide +kernel) (by decide) (fun h1 => ?_) (fun h1 => ?_)
  · skip
    have h0 := tq_b10 h1
    have hxy := k.cell h0
    refine EV_lve (lv' := [some (.ref 0), some (.int (nI (tq_N x))), some (.int (nI (tq_N y)))]) (by rw [← tq_nIN h0.1, ← tq_nIN h0.2.2.1]) ?_
    refine EV_blk (own := 11) C rfl [(.aload_n 0, 0, 0, 0, 0), (.getfield 33, 11, 3, 371, 0), (.aload_n 0, 0, 0, 0, 0), (.getfield 12, 11, 0, 368, 0), (.iload_n 1, 0, 0, 0, 0), (.iload_n 2, 0, 0, 0, 0)] (pc' := 28) (by decide +kernel) (lv' := [some (.ref 0), some (.int (nI (tq_N x))), some (.int (nI (tq_N y)))]) (st' := [.int (nI (tq_N y)), .int (nI (tq_N x)), .ref 1, .ref 102]) (I' := I) (J' := J) rfl ?_
    refine EV_cV (own := 11) (idx := 212) (μ' := mX7_draw) (b := 102) (cb := 7) (av := [.ref 1, .int (nI (tq_N x)), .int (nI (tq_N y))]) (rest := []) C hR rfl (Or.inl ⟨664, by decide⟩) kX7_draw sX7_draw (c_X7_draw g rest I J (tq_N x) (tq_N y) (by omega) (by omega) (k.hT (by omega) (by omega)) k.r7 k.wi k.hi k.bd) rfl rfl (by decide +kernel) rfl (by decide) (Nat.le_of_ble_eq_true rfl) rfl ⟨Nat.zero_le _, Nat.zero_le _⟩ ?_
    refine EV_blk (own := 11) C rfl [(.aload_n 0, 0, 0, 0, 0), (.getfield 33, 11, 3, 371, 0), (.getfield 216, 7, 3, 256, 0)] (pc' := 38) (by decide +kernel) (lv' := [some (.ref 0), some (.int (nI (tq_N x))), some (.int (nI (tq_N y)))]) (st' := [.int ((I_X7_draw I (tq_N x) (tq_N y)) 102 3)]) (I' := (I_X7_draw I (tq_N x) (tq_N y))) (J' := J) rfl ?_
    exact EV_iret C hZ rfl (by decide +kernel) (Nat.le_refl _) (Nat.le_refl _) ⟨tq_some (by simp only [r_X11_layers, if_neg h1]), rfl, rfl, by simp only [I_X11_layers, if_neg h1], rfl⟩
  · skip
    refine EV_blk (own := 11) C rfl [(.bipush (-2), 0, 0, 0, (-2))] (pc' := 17) (by decide +kernel) (lv' := [some (.ref 0), some (.int x), some (.int y)]) (st' := [.int (-2)]) (I' := I) (J' := J) rfl ?_
    exact EV_iret C hZ rfl (by decide +kernel) (Nat.le_refl _) (Nat.le_refl _) ⟨tq_some (by simp only [r_X11_layers, if_pos h1]), rfl, rfl, by simp only [I_X11_layers, if_pos h1], rfl⟩
def r_X11_pieces (I : tq_I) (x y : Int32) (w h o c L : Nat) : Int32 := (if (tq_b (tq_cell I x y)) = 0 then (-2) else ((I_X7_draw I (tq_N x) (tq_N y)) 102 5))
def I_X11_pieces (I : tq_I) (x y : Int32) (w h o c L : Nat) : tq_I := (if (tq_b (tq_cell I x y)) = 0 then I else (I_X7_draw I (tq_N x) (tq_N y)))
set_option maxRecDepth 20000 in
theorem c_X11_pieces (g : tq_G) (rest : List tq_S) (I : tq_I) (J : Int64) (x y : Int32) (w h o c L : Nat) (k : tq_ok I w h o c L) : CT g mX11_pieces 6 0 0 [.ref 0, .int x, .int y] (tq_SC ++ rest) tq_RR I J (tq_ret (tq_SC ++ rest) tq_RR (some (.int (r_X11_pieces I x y w h o c L))) (I_X11_pieces I x y w h o c L) J) := by
  refine CT.ret kX11_pieces (Nat.le_of_ble_eq_true rfl) (fun x0 C hR hZ => ?_)
  refine EV_en (lv' := [some (.ref 0), some (.int x), some (.int y)]) 0 rfl ?_
  refine EV_blk (own := 11) C rfl [(.aload_n 0, 0, 0, 0, 0), (.getfield 12, 11, 0, 368, 0), (.getfield 77, 8, 0, 193, 0), (.iload_n 1, 0, 0, 0, 0), (.iload_n 2, 0, 0, 0, 0)] (pc' := 9) (by decide +kernel) (lv' := [some (.ref 0), some (.int x), some (.int y)]) (st' := [.int y, .int x, .ref 2]) (I' := I) (J' := J) rfl ?_
  refine EV_cV (own := 11) (idx := 153) (μ' := mX3_isCell) (b := 2) (cb := 3) (av := [.int x, .int y]) (rest := []) C hR rfl (Or.inl ⟨543, by decide⟩) kX3_isCell sX3_isCell (c_X3_isCell g rest I J x y ) rfl rfl (by decide +kernel) rfl (by decide) (Nat.le_of_ble_eq_true rfl) rfl ⟨Nat.zero_le _, Nat.zero_le _⟩ ?_
  refine EV_if_ne (off := 6) (tgt := 18) C (by decide +kernel) (by decide) (fun h1 => ?_) (fun h1 => ?_)
  · skip
    have h0 := tq_b10 h1
    have hxy := k.cell h0
    refine EV_lve (lv' := [some (.ref 0), some (.int (nI (tq_N x))), some (.int (nI (tq_N y)))]) (by rw [← tq_nIN h0.1, ← tq_nIN h0.2.2.1]) ?_
    refine EV_blk (own := 11) C rfl [(.aload_n 0, 0, 0, 0, 0), (.getfield 33, 11, 3, 371, 0), (.aload_n 0, 0, 0, 0, 0), (.getfield 12, 11, 0, 368, 0), (.iload_n 1, 0, 0, 0, 0), (.iload_n 2, 0, 0, 0, 0)] (pc' := 28) (by decide +kernel) (lv' := [some (.ref 0), some (.int (nI (tq_N x))), some (.int (nI (tq_N y)))]) (st' := [.int (nI (tq_N y)), .int (nI (tq_N x)), .ref 1, .ref 102]) (I' := I) (J' := J) rfl ?_
    refine EV_cV (own := 11) (idx := 212) (μ' := mX7_draw) (b := 102) (cb := 7) (av := [.ref 1, .int (nI (tq_N x)), .int (nI (tq_N y))]) (rest := []) C hR rfl (Or.inl ⟨664, by decide⟩) kX7_draw sX7_draw (c_X7_draw g rest I J (tq_N x) (tq_N y) (by omega) (by omega) (k.hT (by omega) (by omega)) k.r7 k.wi k.hi k.bd) rfl rfl (by decide +kernel) rfl (by decide) (Nat.le_of_ble_eq_true rfl) rfl ⟨Nat.zero_le _, Nat.zero_le _⟩ ?_
    refine EV_blk (own := 11) C rfl [(.aload_n 0, 0, 0, 0, 0), (.getfield 33, 11, 3, 371, 0), (.getfield 225, 7, 5, 262, 0)] (pc' := 38) (by decide +kernel) (lv' := [some (.ref 0), some (.int (nI (tq_N x))), some (.int (nI (tq_N y)))]) (st' := [.int ((I_X7_draw I (tq_N x) (tq_N y)) 102 5)]) (I' := (I_X7_draw I (tq_N x) (tq_N y))) (J' := J) rfl ?_
    exact EV_iret C hZ rfl (by decide +kernel) (Nat.le_refl _) (Nat.le_refl _) ⟨tq_some (by simp only [r_X11_pieces, if_neg h1]), rfl, rfl, by simp only [I_X11_pieces, if_neg h1], rfl⟩
  · skip
    refine EV_blk (own := 11) C rfl [(.bipush (-2), 0, 0, 0, (-2))] (pc' := 17) (by decide +kernel) (lv' := [some (.ref 0), some (.int x), some (.int y)]) (st' := [.int (-2)]) (I' := I) (J' := J) rfl ?_
    exact EV_iret C hZ rfl (by decide +kernel) (Nat.le_refl _) (Nat.le_refl _) ⟨tq_some (by simp only [r_X11_pieces, if_pos h1]), rfl, rfl, by simp only [I_X11_pieces, if_pos h1], rfl⟩
def r_X11_layer (I : tq_I) (x y ly q : Int32) (w h o c L : Nat) : Int32 := (if (tq_b (tq_cell I x y)) = 0 then (-2) else (if ly < 0 then (-2) else (if ly < ((I_X7_draw I (tq_N x) (tq_N y)) 102 3) then (if q = (nI 0) then ((I_X7_draw I (tq_N x) (tq_N y)) 104 (tq_N ly)) else (if q = (nI 1) then ((I_X7_draw I (tq_N x) (tq_N y)) 105 (tq_N ly)) else (-3))) else (-2))))
def I_X11_layer (I : tq_I) (x y ly q : Int32) (w h o c L : Nat) : tq_I := (if (tq_b (tq_cell I x y)) = 0 then I else (if ly < 0 then (I_X7_draw I (tq_N x) (tq_N y)) else (if ly < ((I_X7_draw I (tq_N x) (tq_N y)) 102 3) then (if q = (nI 0) then (I_X7_draw I (tq_N x) (tq_N y)) else (if q = (nI 1) then (I_X7_draw I (tq_N x) (tq_N y)) else (I_X7_draw I (tq_N x) (tq_N y)))) else (I_X7_draw I (tq_N x) (tq_N y)))))
set_option maxRecDepth 20000 in
theorem c_X11_layer (g : tq_G) (rest : List tq_S) (I : tq_I) (J : Int64) (x y ly q : Int32) (w h o c L : Nat) (k : tq_ok I w h o c L) : CT g mX11_layer 6 0 0 [.ref 0, .int x, .int y, .int ly, .int q] (tq_SC ++ rest) tq_RR I J (tq_ret (tq_SC ++ rest) tq_RR (some (.int (r_X11_layer I x y ly q w h o c L))) (I_X11_layer I x y ly q w h o c L) J) := by
  refine CT.ret kX11_layer (Nat.le_of_ble_eq_true rfl) (fun x0 C hR hZ => ?_)
  refine EV_en (lv' := [some (.ref 0), some (.int x), some (.int y), some (.int ly), some (.int q)]) 0 rfl ?_
  refine EV_blk (own := 11) C rfl [(.aload_n 0, 0, 0, 0, 0), (.getfield 12, 11, 0, 368, 0), (.getfield 77, 8, 0, 193, 0), (.iload_n 1, 0, 0, 0, 0), (.iload_n 2, 0, 0, 0, 0)] (pc' := 9) (by decide +kernel) (lv' := [some (.ref 0), some (.int x), some (.int y), some (.int ly), some (.int q)]) (st' := [.int y, .int x, .ref 2]) (I' := I) (J' := J) rfl ?_
  refine EV_cV (own := 11) (idx := 153) (μ' := mX3_isCell) (b := 2) (cb := 3) (av := [.int x, .int y]) (rest := []) C hR rfl (Or.inl ⟨543, by decide⟩) kX3_isCell sX3_isCell (c_X3_isCell g rest I J x y ) rfl rfl (by decide +kernel) rfl (by decide) (Nat.le_of_ble_eq_true rfl) rfl ⟨Nat.zero_le _, Nat.zero_le _⟩ ?_
  refine EV_if_ne (off := 6) (tgt := 18) C (by decide +kernel) (by decide) (fun h1 => ?_) (fun h1 => ?_)
  · skip
    have h0 := tq_b10 h1
    have hxy := k.cell h0
    refine EV_lve (lv' := [some (.ref 0), some (.int (nI (tq_N x))), some (.int (nI (tq_N y))), some (.int ly), some (.int q)]) (by rw [← tq_nIN h0.1, ← tq_nIN h0.2.2.1]) ?_
    refine EV_blk (own := 11) C rfl [(.aload_n 0, 0, 0, 0, 0), (.getfield 33, 11, 3, 371, 0), (.aload_n 0, 0, 0, 0, 0), (.getfield 12, 11, 0, 368, 0), (.iload_n 1, 0, 0, 0, 0), (.iload_n 2, 0, 0, 0, 0)] (pc' := 28) (by decide +kernel) (lv' := [some (.ref 0), some (.int (nI (tq_N x))), some (.int (nI (tq_N y))), some (.int ly), some (.int q)]) (st' := [.int (nI (tq_N y)), .int (nI (tq_N x)), .ref 1, .ref 102]) (I' := I) (J' := J) rfl ?_
    refine EV_cV (own := 11) (idx := 212) (μ' := mX7_draw) (b := 102) (cb := 7) (av := [.ref 1, .int (nI (tq_N x)), .int (nI (tq_N y))]) (rest := []) C hR rfl (Or.inl ⟨664, by decide⟩) kX7_draw sX7_draw (c_X7_draw g rest I J (tq_N x) (tq_N y) (by omega) (by omega) (k.hT (by omega) (by omega)) k.r7 k.wi k.hi k.bd) rfl rfl (by decide +kernel) rfl (by decide) (Nat.le_of_ble_eq_true rfl) rfl ⟨Nat.zero_le _, Nat.zero_le _⟩ ?_
    refine EV_blk (own := 11) C rfl [(.iload_n 3, 0, 0, 0, 0)] (pc' := 32) (by decide +kernel) (lv' := [some (.ref 0), some (.int (nI (tq_N x))), some (.int (nI (tq_N y))), some (.int ly), some (.int q)]) (st' := [.int ly]) (I' := (I_X7_draw I (tq_N x) (tq_N y))) (J' := J) rfl ?_
    refine EV_if_lt (off := 14) (tgt := 46) C (by decide +kernel) (by decide) (fun hlt0 => ?_) (fun hlt0 => ?_)
    · skip
      refine EV_blk (own := 11) C rfl [(.bipush (-2), 0, 0, 0, (-2))] (pc' := 48) (by decide +kernel) (lv' := [some (.ref 0), some (.int (nI (tq_N x))), some (.int (nI (tq_N y))), some (.int ly), some (.int q)]) (st' := [.int (-2)]) (I' := (I_X7_draw I (tq_N x) (tq_N y))) (J' := J) rfl ?_
      exact EV_iret C hZ rfl (by decide +kernel) (Nat.le_refl _) (Nat.le_refl _) ⟨tq_some (by simp only [r_X11_layer, if_neg h1, if_pos hlt0]), rfl, rfl, by simp only [I_X11_layer, if_neg h1, if_pos hlt0], rfl⟩
    · skip
      refine EV_blk (own := 11) C rfl [(.iload_n 3, 0, 0, 0, 0), (.aload_n 0, 0, 0, 0, 0), (.getfield 33, 11, 3, 371, 0), (.getfield 216, 7, 3, 256, 0)] (pc' := 43) (by decide +kernel) (lv' := [some (.ref 0), some (.int (nI (tq_N x))), some (.int (nI (tq_N y))), some (.int ly), some (.int q)]) (st' := [.int ((I_X7_draw I (tq_N x) (tq_N y)) 102 3), .int ly]) (I' := (I_X7_draw I (tq_N x) (tq_N y))) (J' := J) rfl ?_
      refine EV_icmp_lt (off := 6) (tgt := 49) C (by decide +kernel) (by decide) (fun h2 => ?_) (fun h2 => ?_)
      · skip
        have hdr := tq_draw_ok (x := tq_N x) (y := tq_N y) k.r7
        have hly0 : 0 ≤ ly.toInt := by simp (disch := omega) only [Int32.lt_iff_toInt_lt, Int32.toInt_zero] at hlt0; omega
        have hly1 := Int32.lt_iff_toInt_lt.mp h2
        refine EV_blk (own := 11) C rfl [(.iload 4, 0, 0, 0, 0)] (pc' := 51) (by decide +kernel) (lv' := [some (.ref 0), some (.int (nI (tq_N x))), some (.int (nI (tq_N y))), some (.int ly), some (.int q)]) (st' := [.int q]) (I' := (I_X7_draw I (tq_N x) (tq_N y))) (J' := J) rfl ?_
        by_cases e3 : q = (nI 0)
        · skip
          refine EV_lookup (dflt := 45) (ps := #[(0, 25), (1, 35)]) (len := 25) (off := 25) (tgt := 76) C (by decide +kernel) (by decide) (by rw [e3]; decide) (by decide) ?_
          refine EV_blk (own := 11) C rfl [(.aload_n 0, 0, 0, 0, 0), (.getfield 33, 11, 3, 371, 0), (.getfield 219, 7, 1, 252, 0), (.iload_n 3, 0, 0, 0, 0)] (pc' := 84) (by decide +kernel) (lv' := [some (.ref 0), some (.int (nI (tq_N x))), some (.int (nI (tq_N y))), some (.int ly), some (.int q)]) (st' := [.int ly, .ref 104]) (I' := (I_X7_draw I (tq_N x) (tq_N y))) (J' := J) rfl ?_
          refine EV_iald (j := (tq_N ly)) C (by decide +kernel) rfl (tq_NI hly0) (tq_Nlt hly0 (by omega)) ?_
          exact EV_iret C hZ rfl (by decide +kernel) (Nat.le_refl _) (Nat.le_refl _) ⟨tq_some (by simp only [r_X11_layer, if_neg h1, if_neg hlt0, if_pos h2, if_pos e3]), rfl, rfl, by simp only [I_X11_layer, if_neg h1, if_neg hlt0, if_pos h2, if_pos e3], rfl⟩
        · skip
          by_cases e4 : q = (nI 1)
          · skip
            refine EV_lookup (dflt := 45) (ps := #[(0, 25), (1, 35)]) (len := 25) (off := 35) (tgt := 86) C (by decide +kernel) (by decide) (by rw [e4]; decide) (by decide) ?_
            refine EV_blk (own := 11) C rfl [(.aload_n 0, 0, 0, 0, 0), (.getfield 33, 11, 3, 371, 0), (.getfield 222, 7, 2, 254, 0), (.iload_n 3, 0, 0, 0, 0)] (pc' := 94) (by decide +kernel) (lv' := [some (.ref 0), some (.int (nI (tq_N x))), some (.int (nI (tq_N y))), some (.int ly), some (.int q)]) (st' := [.int ly, .ref 105]) (I' := (I_X7_draw I (tq_N x) (tq_N y))) (J' := J) rfl ?_
            refine EV_iald (j := (tq_N ly)) C (by decide +kernel) rfl (tq_NI hly0) (tq_Nlt hly0 (by omega)) ?_
            exact EV_iret C hZ rfl (by decide +kernel) (Nat.le_refl _) (Nat.le_refl _) ⟨tq_some (by simp only [r_X11_layer, if_neg h1, if_neg hlt0, if_pos h2, if_neg e3, if_pos e4]), rfl, rfl, by simp only [I_X11_layer, if_neg h1, if_neg hlt0, if_pos h2, if_neg e3, if_pos e4], rfl⟩
          · skip
            refine EV_lookup (dflt := 45) (ps := #[(0, 25), (1, 35)]) (len := 25) (off := 45) (tgt := 96) C (by decide +kernel) (by decide) ((lv_osw e3 (by decide)).trans ((lv_osw e4 (by decide)).trans rfl)) (by decide) ?_
            refine EV_blk (own := 11) C rfl [(.bipush (-3), 0, 0, 0, (-3))] (pc' := 98) (by decide +kernel) (lv' := [some (.ref 0), some (.int (nI (tq_N x))), some (.int (nI (tq_N y))), some (.int ly), some (.int q)]) (st' := [.int (-3)]) (I' := (I_X7_draw I (tq_N x) (tq_N y))) (J' := J) rfl ?_
            exact EV_iret C hZ rfl (by decide +kernel) (Nat.le_refl _) (Nat.le_refl _) ⟨tq_some (by simp only [r_X11_layer, if_neg h1, if_neg hlt0, if_pos h2, if_neg e3, if_neg e4]), rfl, rfl, by simp only [I_X11_layer, if_neg h1, if_neg hlt0, if_pos h2, if_neg e3, if_neg e4], rfl⟩
      · skip
        refine EV_blk (own := 11) C rfl [(.bipush (-2), 0, 0, 0, (-2))] (pc' := 48) (by decide +kernel) (lv' := [some (.ref 0), some (.int (nI (tq_N x))), some (.int (nI (tq_N y))), some (.int ly), some (.int q)]) (st' := [.int (-2)]) (I' := (I_X7_draw I (tq_N x) (tq_N y))) (J' := J) rfl ?_
        exact EV_iret C hZ rfl (by decide +kernel) (Nat.le_refl _) (Nat.le_refl _) ⟨tq_some (by simp only [r_X11_layer, if_neg h1, if_neg hlt0, if_neg h2]), rfl, rfl, by simp only [I_X11_layer, if_neg h1, if_neg hlt0, if_neg h2], rfl⟩
  · skip
    refine EV_blk (own := 11) C rfl [(.bipush (-2), 0, 0, 0, (-2))] (pc' := 17) (by decide +kernel) (lv' := [some (.ref 0), some (.int x), some (.int y), some (.int ly), some (.int q)]) (st' := [.int (-2)]) (I' := I) (J' := J) rfl ?_
    exact EV_iret C hZ rfl (by decide +kernel) (Nat.le_refl _) (Nat.le_refl _) ⟨tq_some (by simp only [r_X11_layer, if_pos h1]), rfl, rfl, by simp only [I_X11_layer, if_pos h1], rfl⟩
def r_X11_propertyOfPiece (v q : Int32) : Int32 := (if (tq_rem v (nI 64)) < (nI 56) then (if q = (nI 0) then (v / (nI 64)) else (if q = (nI 1) then (((tq_rem v (nI 64)) / (nI 4)) + (nI 1)) else (if q = (nI 2) then (tq_rem (tq_rem v (nI 64)) (nI 4)) else (if q = (nI 3) then (nI 0) else (-3))))) else (if q = (nI 0) then (v / (nI 64)) else (if q = (nI 1) then (nI 15) else (if q = (nI 2) then (nI 0) else (if q = (nI 3) then ((tq_rem v (nI 64)) - (nI 56)) else (-3))))))
set_option maxRecDepth 20000 in
theorem c_X11_propertyOfPiece (g : tq_G) (rest : List tq_S) (I : tq_I) (J : Int64) (v q : Int32)  : CT g mX11_propertyOfPiece 0 0 0 [.int v, .int q] (tq_SC ++ rest) tq_RR I J (tq_ret (tq_SC ++ rest) tq_RR (some (.int (r_X11_propertyOfPiece v q))) I J) := by
  refine CT.ret kX11_propertyOfPiece (Nat.le_of_ble_eq_true rfl) (fun x0 C hR hZ => ?_)
  refine EV_en (lv' := [some (.int v), some (.int q), none, none]) 2 rfl ?_
  refine EV_blk (own := 11) C rfl [(.iload_n 0, 0, 0, 0, 0), (.bipush 64, 0, 0, 0, (nI 64))] (pc' := 3) (by decide +kernel) (lv' := [some (.int v), some (.int q), none, none]) (st' := [.int (nI 64), .int v]) (I' := I) (J' := J) rfl ?_
  refine EV_irem C (by decide +kernel) (by decide) ?_
  refine EV_blk (own := 11) C rfl [(.istore_n 2, 0, 0, 0, 0), (.iload_n 2, 0, 0, 0, 0), (.bipush 56, 0, 0, 0, (nI 56))] (pc' := 8) (by decide +kernel) (lv' := [some (.int v), some (.int q), some (.int (tq_rem v (nI 64))), none]) (st' := [.int (nI 56), .int (tq_rem v (nI 64))]) (I' := I) (J' := J) rfl ?_
  refine EV_icmp_lt (off := 7) (tgt := 15) C (by decide +kernel) (by decide) (fun h1 => ?_) (fun h1 => ?_)
  · skip
    refine EV_blk (own := 11) C rfl [(.iconst 0, 0, 0, 0, (nI 0)), (.istore_n 3, 0, 0, 0, 0), (.iload_n 1, 0, 0, 0, 0)] (pc' := 18) (by decide +kernel) (lv' := [some (.int v), some (.int q), some (.int (tq_rem v (nI 64))), some (.int (nI 0))]) (st' := [.int q]) (I' := I) (J' := J) rfl ?_
    by_cases e2 : q = (nI 0)
    · skip
      refine EV_tableIn (dflt := 75) (lo := 0) (hi := 3) (offs := #[30, 35, 50, 62]) (len := 30) (off := 30) (tgt := 48) C (by decide +kernel) (by rw [e2]; decide) (by rw [e2]; decide) (by rw [e2]; rfl) (by decide) ?_
      refine EV_blk (own := 11) C rfl [(.iload_n 0, 0, 0, 0, 0), (.bipush 64, 0, 0, 0, (nI 64))] (pc' := 51) (by decide +kernel) (lv' := [some (.int v), some (.int q), some (.int (tq_rem v (nI 64))), some (.int (nI 0))]) (st' := [.int (nI 64), .int v]) (I' := I) (J' := J) rfl ?_
      refine EV_idiv C (by decide +kernel) (by decide) ?_
      exact EV_iret C hZ rfl (by decide +kernel) (Nat.le_refl _) (Nat.le_refl _) ⟨tq_some (by simp only [r_X11_propertyOfPiece, if_pos h1, if_pos e2]), rfl, rfl, rfl, rfl⟩
    · skip
      by_cases e3 : q = (nI 1)
      · skip
        refine EV_tableIn (dflt := 75) (lo := 0) (hi := 3) (offs := #[30, 35, 50, 62]) (len := 30) (off := 35) (tgt := 53) C (by decide +kernel) (by rw [e3]; decide) (by rw [e3]; decide) (by rw [e3]; rfl) (by decide) ?_
        refine EV_blk (own := 11) C rfl [(.iload_n 3, 0, 0, 0, 0)] (pc' := 54) (by decide +kernel) (lv' := [some (.int v), some (.int q), some (.int (tq_rem v (nI 64))), some (.int (nI 0))]) (st' := [.int (nI 0)]) (I' := I) (J' := J) rfl ?_
        refine EV_if_eq (off := 8) (tgt := 62) C (by decide +kernel) (by decide) (fun h4 => ?_) (fun h4 => ?_)
        · skip
          refine EV_blk (own := 11) C rfl [(.iload_n 2, 0, 0, 0, 0), (.iconst 4, 0, 0, 0, (nI 4))] (pc' := 64) (by decide +kernel) (lv' := [some (.int v), some (.int q), some (.int (tq_rem v (nI 64))), some (.int (nI 0))]) (st' := [.int (nI 4), .int (tq_rem v (nI 64))]) (I' := I) (J' := J) rfl ?_
          refine EV_idiv C (by decide +kernel) (by decide) ?_
          refine EV_blk (own := 11) C rfl [(.iconst 1, 0, 0, 0, (nI 1)), (.iadd, 0, 0, 0, 0)] (pc' := 67) (by decide +kernel) (lv' := [some (.int v), some (.int q), some (.int (tq_rem v (nI 64))), some (.int (nI 0))]) (st' := [.int (((tq_rem v (nI 64)) / (nI 4)) + (nI 1))]) (I' := I) (J' := J) rfl ?_
          exact EV_iret C hZ rfl (by decide +kernel) (Nat.le_refl _) (Nat.le_refl _) ⟨tq_some (by simp only [r_X11_propertyOfPiece, if_pos h1, if_neg e2, if_pos e3, if_pos h4]), rfl, rfl, rfl, rfl⟩
        · skip
          exact absurd (by decide) h4
      · skip
        by_cases e5 : q = (nI 2)
        · skip
          refine EV_tableIn (dflt := 75) (lo := 0) (hi := 3) (offs := #[30, 35, 50, 62]) (len := 30) (off := 50) (tgt := 68) C (by decide +kernel) (by rw [e5]; decide) (by rw [e5]; decide) (by rw [e5]; rfl) (by decide) ?_
          refine EV_blk (own := 11) C rfl [(.iload_n 3, 0, 0, 0, 0)] (pc' := 69) (by decide +kernel) (lv' := [some (.int v), some (.int q), some (.int (tq_rem v (nI 64))), some (.int (nI 0))]) (st' := [.int (nI 0)]) (I' := I) (J' := J) rfl ?_
          refine EV_if_eq (off := 7) (tgt := 76) C (by decide +kernel) (by decide) (fun h6 => ?_) (fun h6 => ?_)
          · skip
            refine EV_blk (own := 11) C rfl [(.iload_n 2, 0, 0, 0, 0), (.iconst 4, 0, 0, 0, (nI 4))] (pc' := 78) (by decide +kernel) (lv' := [some (.int v), some (.int q), some (.int (tq_rem v (nI 64))), some (.int (nI 0))]) (st' := [.int (nI 4), .int (tq_rem v (nI 64))]) (I' := I) (J' := J) rfl ?_
            refine EV_irem C (by decide +kernel) (by decide) ?_
            exact EV_iret C hZ rfl (by decide +kernel) (Nat.le_refl _) (Nat.le_refl _) ⟨tq_some (by simp only [r_X11_propertyOfPiece, if_pos h1, if_neg e2, if_neg e3, if_pos e5, if_pos h6]), rfl, rfl, rfl, rfl⟩
          · skip
            exact absurd (by decide) h6
        · skip
          by_cases e7 : q = (nI 3)
          · skip
            refine EV_tableIn (dflt := 75) (lo := 0) (hi := 3) (offs := #[30, 35, 50, 62]) (len := 30) (off := 62) (tgt := 80) C (by decide +kernel) (by rw [e7]; decide) (by rw [e7]; decide) (by rw [e7]; rfl) (by decide) ?_
            refine EV_blk (own := 11) C rfl [(.iload_n 3, 0, 0, 0, 0)] (pc' := 81) (by decide +kernel) (lv' := [some (.int v), some (.int q), some (.int (tq_rem v (nI 64))), some (.int (nI 0))]) (st' := [.int (nI 0)]) (I' := I) (J' := J) rfl ?_
            refine EV_if_eq (off := 10) (tgt := 91) C (by decide +kernel) (by decide) (fun h8 => ?_) (fun h8 => ?_)
            · skip
              refine EV_blk (own := 11) C rfl [(.iconst 0, 0, 0, 0, (nI 0))] (pc' := 92) (by decide +kernel) (lv' := [some (.int v), some (.int q), some (.int (tq_rem v (nI 64))), some (.int (nI 0))]) (st' := [.int (nI 0)]) (I' := I) (J' := J) rfl ?_
              exact EV_iret C hZ rfl (by decide +kernel) (Nat.le_refl _) (Nat.le_refl _) ⟨tq_some (by simp only [r_X11_propertyOfPiece, if_pos h1, if_neg e2, if_neg e3, if_neg e5, if_pos e7, if_pos h8]), rfl, rfl, rfl, rfl⟩
            · skip
              exact absurd (by decide) h8
          · skip
            refine EV_tableOut (dflt := 75) (lo := 0) (hi := 3) (offs := #[30, 35, 50, 62]) (len := 30) (tgt := 93) C (by decide +kernel) (tq_swo (n := 3) (by decide) (fun q hq => by rcases (show q = 0 ∨ q = 1 ∨ q = 2 ∨ q = 3 by omega) with rfl | rfl | rfl | rfl <;> assumption)) (by decide) ?_
            refine EV_blk (own := 11) C rfl [(.bipush (-3), 0, 0, 0, (-3))] (pc' := 95) (by decide +kernel) (lv' := [some (.int v), some (.int q), some (.int (tq_rem v (nI 64))), some (.int (nI 0))]) (st' := [.int (-3)]) (I' := I) (J' := J) rfl ?_
            exact EV_iret C hZ rfl (by decide +kernel) (Nat.le_refl _) (Nat.le_refl _) ⟨tq_some (by simp only [r_X11_propertyOfPiece, if_pos h1, if_neg e2, if_neg e3, if_neg e5, if_neg e7]), rfl, rfl, rfl, rfl⟩
  · skip
    refine EV_blk (own := 11) C rfl [(.iconst 1, 0, 0, 0, (nI 1)), (.goto 4, 0, 0, 0, 0), (.istore_n 3, 0, 0, 0, 0), (.iload_n 1, 0, 0, 0, 0)] (pc' := 18) (by decide +kernel) (lv' := [some (.int v), some (.int q), some (.int (tq_rem v (nI 64))), some (.int (nI 1))]) (st' := [.int q]) (I' := I) (J' := J) rfl ?_
    by_cases e9 : q = (nI 0)
    · skip
      refine EV_tableIn (dflt := 75) (lo := 0) (hi := 3) (offs := #[30, 35, 50, 62]) (len := 30) (off := 30) (tgt := 48) C (by decide +kernel) (by rw [e9]; decide) (by rw [e9]; decide) (by rw [e9]; rfl) (by decide) ?_
      refine EV_blk (own := 11) C rfl [(.iload_n 0, 0, 0, 0, 0), (.bipush 64, 0, 0, 0, (nI 64))] (pc' := 51) (by decide +kernel) (lv' := [some (.int v), some (.int q), some (.int (tq_rem v (nI 64))), some (.int (nI 1))]) (st' := [.int (nI 64), .int v]) (I' := I) (J' := J) rfl ?_
      refine EV_idiv C (by decide +kernel) (by decide) ?_
      exact EV_iret C hZ rfl (by decide +kernel) (Nat.le_refl _) (Nat.le_refl _) ⟨tq_some (by simp only [r_X11_propertyOfPiece, if_neg h1, if_pos e9]), rfl, rfl, rfl, rfl⟩
    · skip
      by_cases e10 : q = (nI 1)
      · skip
        refine EV_tableIn (dflt := 75) (lo := 0) (hi := 3) (offs := #[30, 35, 50, 62]) (len := 30) (off := 35) (tgt := 53) C (by decide +kernel) (by rw [e10]; decide) (by rw [e10]; decide) (by rw [e10]; rfl) (by decide) ?_
        refine EV_blk (own := 11) C rfl [(.iload_n 3, 0, 0, 0, 0)] (pc' := 54) (by decide +kernel) (lv' := [some (.int v), some (.int q), some (.int (tq_rem v (nI 64))), some (.int (nI 1))]) (st' := [.int (nI 1)]) (I' := I) (J' := J) rfl ?_
        refine EV_if_eq (off := 8) (tgt := 62) C (by decide +kernel) (by decide) (fun h11 => ?_) (fun h11 => ?_)
        · skip
          exact absurd h11 (by decide)
        · skip
          refine EV_blk (own := 11) C rfl [(.bipush 15, 0, 0, 0, (nI 15)), (.goto 8, 0, 0, 0, 0)] (pc' := 67) (by decide +kernel) (lv' := [some (.int v), some (.int q), some (.int (tq_rem v (nI 64))), some (.int (nI 1))]) (st' := [.int (nI 15)]) (I' := I) (J' := J) rfl ?_
          exact EV_iret C hZ rfl (by decide +kernel) (Nat.le_refl _) (Nat.le_refl _) ⟨tq_some (by simp only [r_X11_propertyOfPiece, if_neg h1, if_neg e9, if_pos e10, if_neg h11]), rfl, rfl, rfl, rfl⟩
      · skip
        by_cases e12 : q = (nI 2)
        · skip
          refine EV_tableIn (dflt := 75) (lo := 0) (hi := 3) (offs := #[30, 35, 50, 62]) (len := 30) (off := 50) (tgt := 68) C (by decide +kernel) (by rw [e12]; decide) (by rw [e12]; decide) (by rw [e12]; rfl) (by decide) ?_
          refine EV_blk (own := 11) C rfl [(.iload_n 3, 0, 0, 0, 0)] (pc' := 69) (by decide +kernel) (lv' := [some (.int v), some (.int q), some (.int (tq_rem v (nI 64))), some (.int (nI 1))]) (st' := [.int (nI 1)]) (I' := I) (J' := J) rfl ?_
          refine EV_if_eq (off := 7) (tgt := 76) C (by decide +kernel) (by decide) (fun h13 => ?_) (fun h13 => ?_)
          · skip
            exact absurd h13 (by decide)
          · skip
            refine EV_blk (own := 11) C rfl [(.iconst 0, 0, 0, 0, (nI 0)), (.goto 6, 0, 0, 0, 0)] (pc' := 79) (by decide +kernel) (lv' := [some (.int v), some (.int q), some (.int (tq_rem v (nI 64))), some (.int (nI 1))]) (st' := [.int (nI 0)]) (I' := I) (J' := J) rfl ?_
            exact EV_iret C hZ rfl (by decide +kernel) (Nat.le_refl _) (Nat.le_refl _) ⟨tq_some (by simp only [r_X11_propertyOfPiece, if_neg h1, if_neg e9, if_neg e10, if_pos e12, if_neg h13]), rfl, rfl, rfl, rfl⟩
        · skip
          by_cases e14 : q = (nI 3)
          · skip
            refine EV_tableIn (dflt := 75) (lo := 0) (hi := 3) (offs := #[30, 35, 50, 62]) (len := 30) (off := 62) (tgt := 80) C (by decide +kernel) (by rw [e14]; decide) (by rw [e14]; decide) (by rw [e14]; rfl) (by decide) ?_
            refine EV_blk (own := 11) C rfl [(.iload_n 3, 0, 0, 0, 0)] (pc' := 81) (by decide +kernel) (lv' := [some (.int v), some (.int q), some (.int (tq_rem v (nI 64))), some (.int (nI 1))]) (st' := [.int (nI 1)]) (I' := I) (J' := J) rfl ?_
            refine EV_if_eq (off := 10) (tgt := 91) C (by decide +kernel) (by decide) (fun h15 => ?_) (fun h15 => ?_)
            · skip
              exact absurd h15 (by decide)
            · skip
              refine EV_blk (own := 11) C rfl [(.iload_n 2, 0, 0, 0, 0), (.bipush 56, 0, 0, 0, (nI 56)), (.isub, 0, 0, 0, 0), (.goto 4, 0, 0, 0, 0)] (pc' := 92) (by decide +kernel) (lv' := [some (.int v), some (.int q), some (.int (tq_rem v (nI 64))), some (.int (nI 1))]) (st' := [.int ((tq_rem v (nI 64)) - (nI 56))]) (I' := I) (J' := J) rfl ?_
              exact EV_iret C hZ rfl (by decide +kernel) (Nat.le_refl _) (Nat.le_refl _) ⟨tq_some (by simp only [r_X11_propertyOfPiece, if_neg h1, if_neg e9, if_neg e10, if_neg e12, if_pos e14, if_neg h15]), rfl, rfl, rfl, rfl⟩
          · skip
            refine EV_tableOut (dflt := 75) (lo := 0) (hi := 3) (offs := #[30, 35, 50, 62]) (len := 30) (tgt := 93) C (by decide +kernel) (tq_swo (n := 3) (by decide) (fun q hq => by rcases (show q = 0 ∨ q = 1 ∨ q = 2 ∨ q = 3 by omega) with rfl | rfl | rfl | rfl <;> assumption)) (by decide) ?_
            refine EV_blk (own := 11) C rfl [(.bipush (-3), 0, 0, 0, (-3))] (pc' := 95) (by decide +kernel) (lv' := [some (.int v), some (.int q), some (.int (tq_rem v (nI 64))), some (.int (nI 1))]) (st' := [.int (-3)]) (I' := I) (J' := J) rfl ?_
            exact EV_iret C hZ rfl (by decide +kernel) (Nat.le_refl _) (Nat.le_refl _) ⟨tq_some (by simp only [r_X11_propertyOfPiece, if_neg h1, if_neg e9, if_neg e10, if_neg e12, if_neg e14]), rfl, rfl, rfl, rfl⟩
def r_X11_piece (I : tq_I) (x y ly q : Int32) (w h o c L : Nat) : Int32 := (if (tq_b (tq_cell I x y)) = 0 then (-2) else (if ly < 0 then (-2) else (if ly < ((I_X7_draw I (tq_N x) (tq_N y)) 102 5) then (r_X11_propertyOfPiece ((I_X7_draw I (tq_N x) (tq_N y)) 106 (tq_N ly)) q) else (-2))))
def I_X11_piece (I : tq_I) (x y ly q : Int32) (w h o c L : Nat) : tq_I := (if (tq_b (tq_cell I x y)) = 0 then I else (if ly < 0 then (I_X7_draw I (tq_N x) (tq_N y)) else (if ly < ((I_X7_draw I (tq_N x) (tq_N y)) 102 5) then (I_X7_draw I (tq_N x) (tq_N y)) else (I_X7_draw I (tq_N x) (tq_N y)))))
set_option maxRecDepth 20000 in
theorem c_X11_piece (g : tq_G) (rest : List tq_S) (I : tq_I) (J : Int64) (x y ly q : Int32) (w h o c L : Nat) (k : tq_ok I w h o c L) : CT g mX11_piece 6 0 0 [.ref 0, .int x, .int y, .int ly, .int q] (tq_SC ++ rest) tq_RR I J (tq_ret (tq_SC ++ rest) tq_RR (some (.int (r_X11_piece I x y ly q w h o c L))) (I_X11_piece I x y ly q w h o c L) J) := by
  refine CT.ret kX11_piece (Nat.le_of_ble_eq_true rfl) (fun x0 C hR hZ => ?_)
  refine EV_en (lv' := [some (.ref 0), some (.int x), some (.int y), some (.int ly), some (.int q)]) 0 rfl ?_
  refine EV_blk (own := 11) C rfl [(.aload_n 0, 0, 0, 0, 0), (.getfield 12, 11, 0, 368, 0), (.getfield 77, 8, 0, 193, 0), (.iload_n 1, 0, 0, 0, 0), (.iload_n 2, 0, 0, 0, 0)] (pc' := 9) (by decide +kernel) (lv' := [some (.ref 0), some (.int x), some (.int y), some (.int ly), some (.int q)]) (st' := [.int y, .int x, .ref 2]) (I' := I) (J' := J) rfl ?_
  refine EV_cV (own := 11) (idx := 153) (μ' := mX3_isCell) (b := 2) (cb := 3) (av := [.int x, .int y]) (rest := []) C hR rfl (Or.inl ⟨543, by decide⟩) kX3_isCell sX3_isCell (c_X3_isCell g rest I J x y ) rfl rfl (by decide +kernel) rfl (by decide) (Nat.le_of_ble_eq_true rfl) rfl ⟨Nat.zero_le _, Nat.zero_le _⟩ ?_
  refine EV_if_ne (off := 6) (tgt := 18) C (by decide +kernel) (by decide) (fun h1 => ?_) (fun h1 => ?_)
  · skip
    have h0 := tq_b10 h1
    have hxy := k.cell h0
    refine EV_lve (lv' := [some (.ref 0), some (.int (nI (tq_N x))), some (.int (nI (tq_N y))), some (.int ly), some (.int q)]) (by rw [← tq_nIN h0.1, ← tq_nIN h0.2.2.1]) ?_
    refine EV_blk (own := 11) C rfl [(.aload_n 0, 0, 0, 0, 0), (.getfield 33, 11, 3, 371, 0), (.aload_n 0, 0, 0, 0, 0), (.getfield 12, 11, 0, 368, 0), (.iload_n 1, 0, 0, 0, 0), (.iload_n 2, 0, 0, 0, 0)] (pc' := 28) (by decide +kernel) (lv' := [some (.ref 0), some (.int (nI (tq_N x))), some (.int (nI (tq_N y))), some (.int ly), some (.int q)]) (st' := [.int (nI (tq_N y)), .int (nI (tq_N x)), .ref 1, .ref 102]) (I' := I) (J' := J) rfl ?_
    refine EV_cV (own := 11) (idx := 212) (μ' := mX7_draw) (b := 102) (cb := 7) (av := [.ref 1, .int (nI (tq_N x)), .int (nI (tq_N y))]) (rest := []) C hR rfl (Or.inl ⟨664, by decide⟩) kX7_draw sX7_draw (c_X7_draw g rest I J (tq_N x) (tq_N y) (by omega) (by omega) (k.hT (by omega) (by omega)) k.r7 k.wi k.hi k.bd) rfl rfl (by decide +kernel) rfl (by decide) (Nat.le_of_ble_eq_true rfl) rfl ⟨Nat.zero_le _, Nat.zero_le _⟩ ?_
    refine EV_blk (own := 11) C rfl [(.iload_n 3, 0, 0, 0, 0)] (pc' := 32) (by decide +kernel) (lv' := [some (.ref 0), some (.int (nI (tq_N x))), some (.int (nI (tq_N y))), some (.int ly), some (.int q)]) (st' := [.int ly]) (I' := (I_X7_draw I (tq_N x) (tq_N y))) (J' := J) rfl ?_
    refine EV_if_lt (off := 14) (tgt := 46) C (by decide +kernel) (by decide) (fun hlt0 => ?_) (fun hlt0 => ?_)
    · skip
      refine EV_blk (own := 11) C rfl [(.bipush (-2), 0, 0, 0, (-2))] (pc' := 48) (by decide +kernel) (lv' := [some (.ref 0), some (.int (nI (tq_N x))), some (.int (nI (tq_N y))), some (.int ly), some (.int q)]) (st' := [.int (-2)]) (I' := (I_X7_draw I (tq_N x) (tq_N y))) (J' := J) rfl ?_
      exact EV_iret C hZ rfl (by decide +kernel) (Nat.le_refl _) (Nat.le_refl _) ⟨tq_some (by simp only [r_X11_piece, if_neg h1, if_pos hlt0]), rfl, rfl, by simp only [I_X11_piece, if_neg h1, if_pos hlt0], rfl⟩
    · skip
      refine EV_blk (own := 11) C rfl [(.iload_n 3, 0, 0, 0, 0), (.aload_n 0, 0, 0, 0, 0), (.getfield 33, 11, 3, 371, 0), (.getfield 225, 7, 5, 262, 0)] (pc' := 43) (by decide +kernel) (lv' := [some (.ref 0), some (.int (nI (tq_N x))), some (.int (nI (tq_N y))), some (.int ly), some (.int q)]) (st' := [.int ((I_X7_draw I (tq_N x) (tq_N y)) 102 5), .int ly]) (I' := (I_X7_draw I (tq_N x) (tq_N y))) (J' := J) rfl ?_
      refine EV_icmp_lt (off := 6) (tgt := 49) C (by decide +kernel) (by decide) (fun h2 => ?_) (fun h2 => ?_)
      · skip
        have hdr := tq_draw_ok (x := tq_N x) (y := tq_N y) k.r7
        have hly0 : 0 ≤ ly.toInt := by simp (disch := omega) only [Int32.lt_iff_toInt_lt, Int32.toInt_zero] at hlt0; omega
        have hly1 := Int32.lt_iff_toInt_lt.mp h2
        refine EV_blk (own := 11) C rfl [(.aload_n 0, 0, 0, 0, 0), (.getfield 33, 11, 3, 371, 0), (.getfield 228, 7, 4, 259, 0), (.iload_n 3, 0, 0, 0, 0)] (pc' := 57) (by decide +kernel) (lv' := [some (.ref 0), some (.int (nI (tq_N x))), some (.int (nI (tq_N y))), some (.int ly), some (.int q)]) (st' := [.int ly, .ref 106]) (I' := (I_X7_draw I (tq_N x) (tq_N y))) (J' := J) rfl ?_
        refine EV_iald (j := (tq_N ly)) C (by decide +kernel) rfl (tq_NI hly0) (tq_Nlt hly0 (by omega)) ?_
        refine EV_blk (own := 11) C rfl [(.iload 4, 0, 0, 0, 0)] (pc' := 60) (by decide +kernel) (lv' := [some (.ref 0), some (.int (nI (tq_N x))), some (.int (nI (tq_N y))), some (.int ly), some (.int q)]) (st' := [.int q, .int ((I_X7_draw I (tq_N x) (tq_N y)) 106 (tq_N ly))]) (I' := (I_X7_draw I (tq_N x) (tq_N y))) (J' := J) rfl ?_
        refine EV_cS (own := 11) (idx := 231) (μ' := mX11_propertyOfPiece) (av := [.int ((I_X7_draw I (tq_N x) (tq_N y)) 106 (tq_N ly)), .int q]) (rest := []) C hR rfl (Or.inl ⟨712, by decide⟩) kX11_propertyOfPiece sX11_propertyOfPiece (c_X11_propertyOfPiece g rest (I_X7_draw I (tq_N x) (tq_N y)) J ((I_X7_draw I (tq_N x) (tq_N y)) 106 (tq_N ly)) q ) (by decide +kernel) rfl (by decide) (Nat.le_of_ble_eq_true rfl) rfl ⟨Nat.zero_le _, Nat.zero_le _⟩ ?_
        exact EV_iret C hZ rfl (by decide +kernel) (Nat.le_refl _) (Nat.le_refl _) ⟨tq_some (by simp only [r_X11_piece, if_neg h1, if_neg hlt0, if_pos h2]), rfl, rfl, by simp only [I_X11_piece, if_neg h1, if_neg hlt0, if_pos h2], rfl⟩
      · skip
        refine EV_blk (own := 11) C rfl [(.bipush (-2), 0, 0, 0, (-2))] (pc' := 48) (by decide +kernel) (lv' := [some (.ref 0), some (.int (nI (tq_N x))), some (.int (nI (tq_N y))), some (.int ly), some (.int q)]) (st' := [.int (-2)]) (I' := (I_X7_draw I (tq_N x) (tq_N y))) (J' := J) rfl ?_
        exact EV_iret C hZ rfl (by decide +kernel) (Nat.le_refl _) (Nat.le_refl _) ⟨tq_some (by simp only [r_X11_piece, if_neg h1, if_neg hlt0, if_neg h2]), rfl, rfl, by simp only [I_X11_piece, if_neg h1, if_neg hlt0, if_neg h2], rfl⟩
  · skip
    refine EV_blk (own := 11) C rfl [(.bipush (-2), 0, 0, 0, (-2))] (pc' := 17) (by decide +kernel) (lv' := [some (.ref 0), some (.int x), some (.int y), some (.int ly), some (.int q)]) (st' := [.int (-2)]) (I' := I) (J' := J) rfl ?_
    exact EV_iret C hZ rfl (by decide +kernel) (Nat.le_refl _) (Nat.le_refl _) ⟨tq_some (by simp only [r_X11_piece, if_pos h1]), rfl, rfl, by simp only [I_X11_piece, if_pos h1], rfl⟩
def r_X11_painted (I : tq_I) (x y : Int32) (w h o c L : Nat) : Int32 := (if (tq_b (tq_cell I x y)) = 0 then (-2) else (I 13 ((tq_N y) * 10 + (tq_N x))))
set_option maxRecDepth 20000 in
theorem c_X11_painted (g : tq_G) (rest : List tq_S) (I : tq_I) (J : Int64) (x y : Int32) (w h o c L : Nat) (k : tq_ok I w h o c L) : CT g mX11_painted 2 0 0 [.ref 0, .int x, .int y] (tq_SC ++ rest) tq_RR I J (tq_ret (tq_SC ++ rest) tq_RR (some (.int (r_X11_painted I x y w h o c L))) I J) := by
  refine CT.ret kX11_painted (Nat.le_of_ble_eq_true rfl) (fun x0 C hR hZ => ?_)
  refine EV_en (lv' := [some (.ref 0), some (.int x), some (.int y)]) 0 rfl ?_
  refine EV_blk (own := 11) C rfl [(.aload_n 0, 0, 0, 0, 0), (.getfield 12, 11, 0, 368, 0), (.getfield 77, 8, 0, 193, 0), (.iload_n 1, 0, 0, 0, 0), (.iload_n 2, 0, 0, 0, 0)] (pc' := 9) (by decide +kernel) (lv' := [some (.ref 0), some (.int x), some (.int y)]) (st' := [.int y, .int x, .ref 2]) (I' := I) (J' := J) rfl ?_
  refine EV_cV (own := 11) (idx := 153) (μ' := mX3_isCell) (b := 2) (cb := 3) (av := [.int x, .int y]) (rest := []) C hR rfl (Or.inl ⟨543, by decide⟩) kX3_isCell sX3_isCell (c_X3_isCell g rest I J x y ) rfl rfl (by decide +kernel) rfl (by decide) (Nat.le_of_ble_eq_true rfl) rfl ⟨Nat.zero_le _, Nat.zero_le _⟩ ?_
  refine EV_if_eq (off := 22) (tgt := 34) C (by decide +kernel) (by decide) (fun h1 => ?_) (fun h1 => ?_)
  · skip
    refine EV_blk (own := 11) C rfl [(.bipush (-2), 0, 0, 0, (-2))] (pc' := 36) (by decide +kernel) (lv' := [some (.ref 0), some (.int x), some (.int y)]) (st' := [.int (-2)]) (I' := I) (J' := J) rfl ?_
    exact EV_iret C hZ rfl (by decide +kernel) (Nat.le_refl _) (Nat.le_refl _) ⟨tq_some (by simp only [r_X11_painted, if_pos h1]), rfl, rfl, rfl, rfl⟩
  · skip
    have h0 := tq_b10 h1
    have hxy := k.cell h0
    refine EV_lve (lv' := [some (.ref 0), some (.int (nI (tq_N x))), some (.int (nI (tq_N y)))]) (by rw [← tq_nIN h0.1, ← tq_nIN h0.2.2.1]) ?_
    refine EV_blk (own := 11) C rfl [(.aload_n 0, 0, 0, 0, 0), (.getfield 12, 11, 0, 368, 0), (.getfield 234, 8, 2, 199, 0), (.getfield 238, 1, 0, 175, 0), (.iload_n 1, 0, 0, 0, 0), (.iload_n 2, 0, 0, 0, 0)] (pc' := 27) (by decide +kernel) (lv' := [some (.ref 0), some (.int (nI (tq_N x))), some (.int (nI (tq_N y)))]) (st' := [.int (nI (tq_N y)), .int (nI (tq_N x)), .ref 13]) (I' := I) (J' := J) rfl ?_
    refine EV_cS (own := 11) (idx := 243) (μ' := mX11_cellIndex) (av := [.int (nI (tq_N x)), .int (nI (tq_N y))]) (rest := [.ref 13]) C hR rfl (Or.inl ⟨719, by decide⟩) kX11_cellIndex sX11_cellIndex (c_X11_cellIndex g rest I J (tq_N x) (tq_N y) ) (by decide +kernel) rfl (by decide) (Nat.le_of_ble_eq_true rfl) rfl ⟨Nat.zero_le _, Nat.zero_le _⟩ ?_
    refine EV_iald (j := ((tq_N y) * 10 + (tq_N x))) C (by decide +kernel) rfl (nI_toInt (by omega)) (by omega) ?_
    refine EV_blk (own := 11) C rfl [(.goto 5, 0, 0, 0, 0)] (pc' := 36) (by decide +kernel) (lv' := [some (.ref 0), some (.int (nI (tq_N x))), some (.int (nI (tq_N y)))]) (st' := [.int (I 13 ((tq_N y) * 10 + (tq_N x)))]) (I' := I) (J' := J) rfl ?_
    exact EV_iret C hZ rfl (by decide +kernel) (Nat.le_refl _) (Nat.le_refl _) ⟨tq_some (by simp only [r_X11_painted, if_neg h1]), rfl, rfl, rfl, rfl⟩
