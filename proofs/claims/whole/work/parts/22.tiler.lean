/-! TerrainTiler's own methods, one after the other -/
theorem tq_swo {v : Int32} {n : Nat} (hn : n < 1000) (h : ∀ k, k ≤ n → ¬ v = nI k) : v.toInt < 0 ∨ (n : Int) < v.toInt := by
  by_cases h0 : v.toInt < 0
  · exact Or.inl h0
  · right
    have e := tq_nIN (show 0 ≤ v.toInt by omega)
    have e2 := tq_NI (show 0 ≤ v.toInt by omega)
    by_cases hk : tq_N v ≤ n
    · exact absurd e (h _ hk)
    · omega
theorem tq_b10 {p : Prop} [Decidable p] (h : ¬ tq_b p = 0) : p := tq_b1.mp (tq_b01.resolve_left h)
def r_X11_corner (I : tq_I) (x y : Int32) (w h o c L : Nat) : Int32 := (if (tq_b (tq_corner I x y)) = 0 then (-2) else (I 3 ((tq_N y) * 11 + (tq_N x))))
set_option maxRecDepth 20000 in
theorem c_X11_corner (g : tq_G) (rest : List tq_S) (I : tq_I) (J : Int64) (x y : Int32) (w h o c L : Nat) (k : tq_ok I w h o c L) : CT g mX11_corner 2 0 0 [.ref 0, .int x, .int y] (tq_SC ++ rest) tq_RR I J (tq_ret (tq_SC ++ rest) tq_RR (some (.int (r_X11_corner I x y w h o c L))) I J) := by
  refine CT.ret kX11_corner (Nat.le_of_ble_eq_true rfl) (fun x0 C hR hZ => ?_)
  refine EV_en (lv' := [some (.ref 0), some (.int x), some (.int y)]) 0 rfl ?_
  refine EV_blk (own := 11) C rfl [(.aload_n 0, 0, 0, 0, 0), (.getfield 12, 11, 0, 368, 0), (.getfield 77, 8, 0, 193, 0), (.iload_n 1, 0, 0, 0, 0), (.iload_n 2, 0, 0, 0, 0)] (pc' := 9) (by decide +kernel) (lv' := [some (.ref 0), some (.int x), some (.int y)]) (st' := [.int y, .int x, .ref 2]) (I' := I) (J' := J) rfl ?_
  refine EV_cV (own := 11) (idx := 94) (μ' := mX3_isCorner) (b := 2) (cb := 3) (av := [.int x, .int y]) (rest := []) C hR rfl (Or.inl ⟨450, by decide⟩) kX3_isCorner sX3_isCorner (c_X3_isCorner g rest I J x y ) rfl rfl (by decide +kernel) rfl (by decide) (Nat.le_of_ble_eq_true rfl) rfl ⟨Nat.zero_le _, Nat.zero_le _⟩ ?_
  refine EV_if_eq (off := 18) (tgt := 30) C (by decide +kernel) (by decide) (fun h1 => ?_) (fun h1 => ?_)
  · skip
    refine EV_blk (own := 11) C rfl [(.bipush (-2), 0, 0, 0, (-2))] (pc' := 32) (by decide +kernel) (lv' := [some (.ref 0), some (.int x), some (.int y)]) (st' := [.int (-2)]) (I' := I) (J' := J) rfl ?_
    exact EV_iret C hZ rfl (by decide +kernel) (Nat.le_refl _) (Nat.le_refl _) ⟨tq_some (by simp only [r_X11_corner, if_pos h1]), rfl, rfl, rfl, rfl⟩
  · skip
    have h0 := tq_b10 h1
    have hxy := k.corner h0
    refine EV_lve (lv' := [some (.ref 0), some (.int (nI (tq_N x))), some (.int (nI (tq_N y)))]) (by rw [← tq_nIN h0.1, ← tq_nIN h0.2.2.1]) ?_
    refine EV_blk (own := 11) C rfl [(.aload_n 0, 0, 0, 0, 0), (.getfield 12, 11, 0, 368, 0), (.getfield 77, 8, 0, 193, 0), (.iload_n 1, 0, 0, 0, 0), (.iload_n 2, 0, 0, 0, 0)] (pc' := 24) (by decide +kernel) (lv' := [some (.ref 0), some (.int (nI (tq_N x))), some (.int (nI (tq_N y)))]) (st' := [.int (nI (tq_N y)), .int (nI (tq_N x)), .ref 2]) (I' := I) (J' := J) rfl ?_
    refine EV_cV (own := 11) (idx := 98) (μ' := mX3_terrainAt) (b := 2) (cb := 3) (av := [.int (nI (tq_N x)), .int (nI (tq_N y))]) (rest := []) C hR rfl (Or.inl ⟨454, by decide⟩) kX3_terrainAt sX3_terrainAt (c_X3_terrainAt g rest I J (tq_N x) (tq_N y) (by omega) (by omega)) rfl rfl (by decide +kernel) rfl (by decide) (Nat.le_of_ble_eq_true rfl) rfl ⟨Nat.zero_le _, Nat.zero_le _⟩ ?_
    refine EV_blk (own := 11) C rfl [(.goto 5, 0, 0, 0, 0)] (pc' := 32) (by decide +kernel) (lv' := [some (.ref 0), some (.int (nI (tq_N x))), some (.int (nI (tq_N y)))]) (st' := [.int (I 3 ((tq_N y) * 11 + (tq_N x)))]) (I' := I) (J' := J) rfl ?_
    exact EV_iret C hZ rfl (by decide +kernel) (Nat.le_refl _) (Nat.le_refl _) ⟨tq_some (by simp only [r_X11_corner, if_neg h1]), rfl, rfl, rfl, rfl⟩
def r_X11_hasPath (I : tq_I) (x y : Int32) (w h o c L : Nat) : Int32 := (if (tq_b (tq_cell I x y)) = 0 then (-2) else (I 4 ((tq_N y) * 10 + (tq_N x))))
set_option maxRecDepth 20000 in
theorem c_X11_hasPath (g : tq_G) (rest : List tq_S) (I : tq_I) (J : Int64) (x y : Int32) (w h o c L : Nat) (k : tq_ok I w h o c L) : CT g mX11_hasPath 2 0 0 [.ref 0, .int x, .int y] (tq_SC ++ rest) tq_RR I J (tq_ret (tq_SC ++ rest) tq_RR (some (.int (r_X11_hasPath I x y w h o c L))) I J) := by
  refine CT.ret kX11_hasPath (Nat.le_of_ble_eq_true rfl) (fun x0 C hR hZ => ?_)
  refine EV_en (lv' := [some (.ref 0), some (.int x), some (.int y)]) 0 rfl ?_
  refine EV_blk (own := 11) C rfl [(.aload_n 0, 0, 0, 0, 0), (.getfield 12, 11, 0, 368, 0), (.getfield 77, 8, 0, 193, 0), (.iload_n 1, 0, 0, 0, 0), (.iload_n 2, 0, 0, 0, 0)] (pc' := 9) (by decide +kernel) (lv' := [some (.ref 0), some (.int x), some (.int y)]) (st' := [.int y, .int x, .ref 2]) (I' := I) (J' := J) rfl ?_
  refine EV_cV (own := 11) (idx := 153) (μ' := mX3_isCell) (b := 2) (cb := 3) (av := [.int x, .int y]) (rest := []) C hR rfl (Or.inl ⟨543, by decide⟩) kX3_isCell sX3_isCell (c_X3_isCell g rest I J x y ) rfl rfl (by decide +kernel) rfl (by decide) (Nat.le_of_ble_eq_true rfl) rfl ⟨Nat.zero_le _, Nat.zero_le _⟩ ?_
  refine EV_if_eq (off := 18) (tgt := 30) C (by decide +kernel) (by decide) (fun h1 => ?_) (fun h1 => ?_)
  · skip
    refine EV_blk (own := 11) C rfl [(.bipush (-2), 0, 0, 0, (-2))] (pc' := 32) (by decide +kernel) (lv' := [some (.ref 0), some (.int x), some (.int y)]) (st' := [.int (-2)]) (I' := I) (J' := J) rfl ?_
    exact EV_iret C hZ rfl (by decide +kernel) (Nat.le_refl _) (Nat.le_refl _) ⟨tq_some (by simp only [r_X11_hasPath, if_pos h1]), rfl, rfl, rfl, rfl⟩
  · skip
    have h0 := tq_b10 h1
    have hxy := k.cell h0
    refine EV_lve (lv' := [some (.ref 0), some (.int (nI (tq_N x))), some (.int (nI (tq_N y)))]) (by rw [← tq_nIN h0.1, ← tq_nIN h0.2.2.1]) ?_
    refine EV_blk (own := 11) C rfl [(.aload_n 0, 0, 0, 0, 0), (.getfield 12, 11, 0, 368, 0), (.getfield 77, 8, 0, 193, 0), (.iload_n 1, 0, 0, 0, 0), (.iload_n 2, 0, 0, 0, 0)] (pc' := 24) (by decide +kernel) (lv' := [some (.ref 0), some (.int (nI (tq_N x))), some (.int (nI (tq_N y)))]) (st' := [.int (nI (tq_N y)), .int (nI (tq_N x)), .ref 2]) (I' := I) (J' := J) rfl ?_
    refine EV_cV (own := 11) (idx := 156) (μ' := mX3_pathAt) (b := 2) (cb := 3) (av := [.int (nI (tq_N x)), .int (nI (tq_N y))]) (rest := []) C hR rfl (Or.inl ⟨544, by decide⟩) kX3_pathAt sX3_pathAt (c_X3_pathAt g rest I J (tq_N x) (tq_N y) (by omega) (by omega)) rfl rfl (by decide +kernel) rfl (by decide) (Nat.le_of_ble_eq_true rfl) rfl ⟨Nat.zero_le _, Nat.zero_le _⟩ ?_
    refine EV_blk (own := 11) C rfl [(.goto 5, 0, 0, 0, 0)] (pc' := 32) (by decide +kernel) (lv' := [some (.ref 0), some (.int (nI (tq_N x))), some (.int (nI (tq_N y)))]) (st' := [.int (I 4 ((tq_N y) * 10 + (tq_N x)))]) (I' := I) (J' := J) rfl ?_
    exact EV_iret C hZ rfl (by decide +kernel) (Nat.le_refl _) (Nat.le_refl _) ⟨tq_some (by simp only [r_X11_hasPath, if_neg h1]), rfl, rfl, rfl, rfl⟩
def r_X11_pathMask (I : tq_I) (x y : Int32) (w h o c L : Nat) : Int32 := (if (tq_b (tq_cell I x y)) = 0 then (-2) else (if (I 4 ((tq_N y) * 10 + (tq_N x))) = (nI 1) then (r_X3_pathMaskAt I (tq_N x) (tq_N y) (I 5 5)) else (-1)))
set_option maxRecDepth 20000 in
theorem c_X11_pathMask (g : tq_G) (rest : List tq_S) (I : tq_I) (J : Int64) (x y : Int32) (w h o c L : Nat) (k : tq_ok I w h o c L) : CT g mX11_pathMask 3 0 0 [.ref 0, .int x, .int y] (tq_SC ++ rest) tq_RR I J (tq_ret (tq_SC ++ rest) tq_RR (some (.int (r_X11_pathMask I x y w h o c L))) I J) := by
  refine CT.ret kX11_pathMask (Nat.le_of_ble_eq_true rfl) (fun x0 C hR hZ => ?_)
  refine EV_en (lv' := [some (.ref 0), some (.int x), some (.int y)]) 0 rfl ?_
  refine EV_blk (own := 11) C rfl [(.aload_n 0, 0, 0, 0, 0), (.getfield 12, 11, 0, 368, 0), (.getfield 77, 8, 0, 193, 0), (.iload_n 1, 0, 0, 0, 0), (.iload_n 2, 0, 0, 0, 0)] (pc' := 9) (by decide +kernel) (lv' := [some (.ref 0), some (.int x), some (.int y)]) (st' := [.int y, .int x, .ref 2]) (I' := I) (J' := J) rfl ?_
  refine EV_cV (own := 11) (idx := 153) (μ' := mX3_isCell) (b := 2) (cb := 3) (av := [.int x, .int y]) (rest := []) C hR rfl (Or.inl ⟨543, by decide⟩) kX3_isCell sX3_isCell (c_X3_isCell g rest I J x y ) rfl rfl (by decide +kernel) rfl (by decide) (Nat.le_of_ble_eq_true rfl) rfl ⟨Nat.zero_le _, Nat.zero_le _⟩ ?_
  refine EV_if_ne (off := 6) (tgt := 18) C (by decide +kernel) (by decide) (fun h1 => ?_) (fun h1 => ?_)
  · skip
    have h0 := tq_b10 h1
    have hxy := k.cell h0
    refine EV_lve (lv' := [some (.ref 0), some (.int (nI (tq_N x))), some (.int (nI (tq_N y)))]) (by rw [← tq_nIN h0.1, ← tq_nIN h0.2.2.1]) ?_
    refine EV_blk (own := 11) C rfl [(.aload_n 0, 0, 0, 0, 0), (.getfield 12, 11, 0, 368, 0), (.getfield 77, 8, 0, 193, 0), (.iload_n 1, 0, 0, 0, 0), (.iload_n 2, 0, 0, 0, 0)] (pc' := 27) (by decide +kernel) (lv' := [some (.ref 0), some (.int (nI (tq_N x))), some (.int (nI (tq_N y)))]) (st' := [.int (nI (tq_N y)), .int (nI (tq_N x)), .ref 2]) (I' := I) (J' := J) rfl ?_
    refine EV_cV (own := 11) (idx := 156) (μ' := mX3_pathAt) (b := 2) (cb := 3) (av := [.int (nI (tq_N x)), .int (nI (tq_N y))]) (rest := []) C hR rfl (Or.inl ⟨544, by decide⟩) kX3_pathAt sX3_pathAt (c_X3_pathAt g rest I J (tq_N x) (tq_N y) (by omega) (by omega)) rfl rfl (by decide +kernel) rfl (by decide) (Nat.le_of_ble_eq_true rfl) rfl ⟨Nat.zero_le _, Nat.zero_le _⟩ ?_
    refine EV_blk (own := 11) C rfl [(.iconst 1, 0, 0, 0, (nI 1))] (pc' := 31) (by decide +kernel) (lv' := [some (.ref 0), some (.int (nI (tq_N x))), some (.int (nI (tq_N y)))]) (st' := [.int (nI 1), .int (I 4 ((tq_N y) * 10 + (tq_N x)))]) (I' := I) (J' := J) rfl ?_
    refine EV_icmp_ne (off := 28) (tgt := 59) C (by decide +kernel) (by decide) (fun h2 => ?_) (fun h2 => ?_)
    · skip
      refine EV_blk (own := 11) C rfl [(.iconst (-1), 0, 0, 0, (-1))] (pc' := 60) (by decide +kernel) (lv' := [some (.ref 0), some (.int (nI (tq_N x))), some (.int (nI (tq_N y)))]) (st' := [.int (-1)]) (I' := I) (J' := J) rfl ?_
      exact EV_iret C hZ rfl (by decide +kernel) (Nat.le_refl _) (Nat.le_refl _) ⟨tq_some (by simp only [r_X11_pathMask, if_neg h1, if_neg h2]), rfl, rfl, rfl, rfl⟩
    · skip
      refine EV_blk (own := 11) C rfl [(.aload_n 0, 0, 0, 0, 0), (.getfield 12, 11, 0, 368, 0), (.getfield 77, 8, 0, 193, 0), (.iload_n 1, 0, 0, 0, 0), (.iload_n 2, 0, 0, 0, 0), (.aload_n 0, 0, 0, 0, 0), (.getfield 12, 11, 0, 368, 0), (.getfield 135, 8, 1, 196, 0), (.getfield 162, 6, 5, 153, 0)] (pc' := 53) (by decide +kernel) (lv' := [some (.ref 0), some (.int (nI (tq_N x))), some (.int (nI (tq_N y)))]) (st' := [.int (I 5 5), .int (nI (tq_N y)), .int (nI (tq_N x)), .ref 2]) (I' := I) (J' := J) rfl ?_
      refine EV_cV (own := 11) (idx := 166) (μ' := mX3_pathMaskAt) (b := 2) (cb := 3) (av := [.int (nI (tq_N x)), .int (nI (tq_N y)), .int (I 5 5)]) (rest := []) C hR rfl (Or.inl ⟨558, by decide⟩) kX3_pathMaskAt sX3_pathMaskAt (c_X3_pathMaskAt g rest I J (tq_N x) (tq_N y) (I 5 5) k.wi k.hi k.bd) rfl rfl (by decide +kernel) rfl (by decide) (Nat.le_of_ble_eq_true rfl) rfl ⟨Nat.zero_le _, Nat.zero_le _⟩ ?_
      refine EV_blk (own := 11) C rfl [(.goto 4, 0, 0, 0, 0)] (pc' := 60) (by decide +kernel) (lv' := [some (.ref 0), some (.int (nI (tq_N x))), some (.int (nI (tq_N y)))]) (st' := [.int (r_X3_pathMaskAt I (tq_N x) (tq_N y) (I 5 5))]) (I' := I) (J' := J) rfl ?_
      exact EV_iret C hZ rfl (by decide +kernel) (Nat.le_refl _) (Nat.le_refl _) ⟨tq_some (by simp only [r_X11_pathMask, if_neg h1, if_pos h2]), rfl, rfl, rfl, rfl⟩
  · skip
    refine EV_blk (own := 11) C rfl [(.bipush (-2), 0, 0, 0, (-2))] (pc' := 17) (by decide +kernel) (lv' := [some (.ref 0), some (.int x), some (.int y)]) (st' := [.int (-2)]) (I' := I) (J' := J) rfl ?_
    exact EV_iret C hZ rfl (by decide +kernel) (Nat.le_refl _) (Nat.le_refl _) ⟨tq_some (by simp only [r_X11_pathMask, if_pos h1]), rfl, rfl, rfl, rfl⟩
def r_X11_pathTile (I : tq_I) (x y : Int32) (w h o c L : Nat) : Int32 := (if (tq_b (tq_cell I x y)) = 0 then (-2) else (r_X3_pathTileAt I (tq_N x) (tq_N y) (I 5 5)))
set_option maxRecDepth 20000 in
theorem c_X11_pathTile (g : tq_G) (rest : List tq_S) (I : tq_I) (J : Int64) (x y : Int32) (w h o c L : Nat) (k : tq_ok I w h o c L) : CT g mX11_pathTile 4 0 0 [.ref 0, .int x, .int y] (tq_SC ++ rest) tq_RR I J (tq_ret (tq_SC ++ rest) tq_RR (some (.int (r_X11_pathTile I x y w h o c L))) I J) := by
  refine CT.ret kX11_pathTile (Nat.le_of_ble_eq_true rfl) (fun x0 C hR hZ => ?_)
  refine EV_en (lv' := [some (.ref 0), some (.int x), some (.int y)]) 0 rfl ?_
  refine EV_blk (own := 11) C rfl [(.aload_n 0, 0, 0, 0, 0), (.getfield 12, 11, 0, 368, 0), (.getfield 77, 8, 0, 193, 0), (.iload_n 1, 0, 0, 0, 0), (.iload_n 2, 0, 0, 0, 0)] (pc' := 9) (by decide +kernel) (lv' := [some (.ref 0), some (.int x), some (.int y)]) (st' := [.int y, .int x, .ref 2]) (I' := I) (J' := J) rfl ?_
  refine EV_cV (own := 11) (idx := 153) (μ' := mX3_isCell) (b := 2) (cb := 3) (av := [.int x, .int y]) (rest := []) C hR rfl (Or.inl ⟨543, by decide⟩) kX3_isCell sX3_isCell (c_X3_isCell g rest I J x y ) rfl rfl (by decide +kernel) rfl (by decide) (Nat.le_of_ble_eq_true rfl) rfl ⟨Nat.zero_le _, Nat.zero_le _⟩ ?_
  refine EV_if_eq (off := 28) (tgt := 40) C (by decide +kernel) (by decide) (fun h1 => ?_) (fun h1 => ?_)
  · skip
    refine EV_blk (own := 11) C rfl [(.bipush (-2), 0, 0, 0, (-2))] (pc' := 42) (by decide +kernel) (lv' := [some (.ref 0), some (.int x), some (.int y)]) (st' := [.int (-2)]) (I' := I) (J' := J) rfl ?_
    exact EV_iret C hZ rfl (by decide +kernel) (Nat.le_refl _) (Nat.le_refl _) ⟨tq_some (by simp only [r_X11_pathTile, if_pos h1]), rfl, rfl, rfl, rfl⟩
  · skip
    have h0 := tq_b10 h1
    have hxy := k.cell h0
    refine EV_lve (lv' := [some (.ref 0), some (.int (nI (tq_N x))), some (.int (nI (tq_N y)))]) (by rw [← tq_nIN h0.1, ← tq_nIN h0.2.2.1]) ?_
    refine EV_blk (own := 11) C rfl [(.aload_n 0, 0, 0, 0, 0), (.getfield 12, 11, 0, 368, 0), (.getfield 77, 8, 0, 193, 0), (.iload_n 1, 0, 0, 0, 0), (.iload_n 2, 0, 0, 0, 0), (.aload_n 0, 0, 0, 0, 0), (.getfield 12, 11, 0, 368, 0), (.getfield 135, 8, 1, 196, 0), (.getfield 162, 6, 5, 153, 0)] (pc' := 34) (by decide +kernel) (lv' := [some (.ref 0), some (.int (nI (tq_N x))), some (.int (nI (tq_N y)))]) (st' := [.int (I 5 5), .int (nI (tq_N y)), .int (nI (tq_N x)), .ref 2]) (I' := I) (J' := J) rfl ?_
    refine EV_cV (own := 11) (idx := 170) (μ' := mX3_pathTileAt) (b := 2) (cb := 3) (av := [.int (nI (tq_N x)), .int (nI (tq_N y)), .int (I 5 5)]) (rest := []) C hR rfl (Or.inl ⟨575, by decide⟩) kX3_pathTileAt sX3_pathTileAt (c_X3_pathTileAt g rest I J (tq_N x) (tq_N y) (I 5 5) (by omega) (by omega) k.wi k.hi k.bd) rfl rfl (by decide +kernel) rfl (by decide) (Nat.le_of_ble_eq_true rfl) rfl ⟨Nat.zero_le _, Nat.zero_le _⟩ ?_
    refine EV_blk (own := 11) C rfl [(.goto 5, 0, 0, 0, 0)] (pc' := 42) (by decide +kernel) (lv' := [some (.ref 0), some (.int (nI (tq_N x))), some (.int (nI (tq_N y)))]) (st' := [.int (r_X3_pathTileAt I (tq_N x) (tq_N y) (I 5 5))]) (I' := I) (J' := J) rfl ?_
    exact EV_iret C hZ rfl (by decide +kernel) (Nat.le_refl _) (Nat.le_refl _) ⟨tq_some (by simp only [r_X11_pathTile, if_neg h1]), rfl, rfl, rfl, rfl⟩
theorem tq_t05 {t : Int32} (h : (nI 0).toInt ≤ t.toInt ∧ t.toInt ≤ (nI 5).toInt) : 0 ≤ t.toInt ∧ t.toInt ≤ 5 ∧ tq_N t ≤ 5 := by
  have e1 : (nI 0).toInt = 0 := by decide
  have e2 : (nI 5).toInt = 5 := by decide
  refine ⟨by omega, by omega, ?_⟩
  unfold tq_N
  omega
def r_X11_rank (I : tq_I) (t : Int32) (w h o c L : Nat) : Int32 := (if (tq_b ((nI 0).toInt ≤ t.toInt ∧ t.toInt ≤ (nI 5).toInt)) = 0 then (-2) else (I 6 (tq_N t)))
set_option maxRecDepth 20000 in
theorem c_X11_rank (g : tq_G) (rest : List tq_S) (I : tq_I) (J : Int64) (t : Int32) (w h o c L : Nat) (k : tq_ok I w h o c L) : CT g mX11_rank 2 0 0 [.ref 0, .int t] (tq_SC ++ rest) tq_RR I J (tq_ret (tq_SC ++ rest) tq_RR (some (.int (r_X11_rank I t w h o c L))) I J) := by
  refine CT.ret kX11_rank (Nat.le_of_ble_eq_true rfl) (fun x0 C hR hZ => ?_)
  refine EV_en (lv' := [some (.ref 0), some (.int t)]) 0 rfl ?_
  refine EV_blk (own := 11) C rfl [(.iload_n 1, 0, 0, 0, 0)] (pc' := 1) (by decide +kernel) (lv' := [some (.ref 0), some (.int t)]) (st' := [.int t]) (I' := I) (J' := J) rfl ?_
  refine EV_cS (own := 11) (idx := 65) (μ' := mX11_isTerrain) (av := [.int t]) (rest := []) C hR rfl (Or.inl ⟨397, by decide⟩) kX11_isTerrain sX11_isTerrain (c_X11_isTerrain g rest I J t ) (by decide +kernel) rfl (by decide) (Nat.le_of_ble_eq_true rfl) rfl ⟨Nat.zero_le _, Nat.zero_le _⟩ ?_
  refine EV_if_eq (off := 17) (tgt := 21) C (by decide +kernel) (by decide) (fun h1 => ?_) (fun h1 => ?_)
  · skip
    refine EV_blk (own := 11) C rfl [(.bipush (-2), 0, 0, 0, (-2))] (pc' := 23) (by decide +kernel) (lv' := [some (.ref 0), some (.int t)]) (st' := [.int (-2)]) (I' := I) (J' := J) rfl ?_
    exact EV_iret C hZ rfl (by decide +kernel) (Nat.le_refl _) (Nat.le_refl _) ⟨tq_some (by simp only [r_X11_rank, if_pos h1]), rfl, rfl, rfl, rfl⟩
  · skip
    have ht := tq_t05 (tq_b10 h1)
    refine EV_lve (lv' := [some (.ref 0), some (.int (nI (tq_N t)))]) (by rw [← tq_nIN ht.1]) ?_
    refine EV_blk (own := 11) C rfl [(.aload_n 0, 0, 0, 0, 0), (.getfield 12, 11, 0, 368, 0), (.getfield 135, 8, 1, 196, 0), (.iload_n 1, 0, 0, 0, 0)] (pc' := 15) (by decide +kernel) (lv' := [some (.ref 0), some (.int (nI (tq_N t)))]) (st' := [.int (nI (tq_N t)), .ref 5]) (I' := I) (J' := J) rfl ?_
    refine EV_cV (own := 11) (idx := 139) (μ' := mX6_rankOf) (b := 5) (cb := 6) (av := [.int (nI (tq_N t))]) (rest := []) C hR rfl (Or.inl ⟨523, by decide⟩) kX6_rankOf sX6_rankOf (c_X6_rankOf g rest I J (tq_N t) (by omega)) rfl rfl (by decide +kernel) rfl (by decide) (Nat.le_of_ble_eq_true rfl) rfl ⟨Nat.zero_le _, Nat.zero_le _⟩ ?_
    refine EV_blk (own := 11) C rfl [(.goto 5, 0, 0, 0, 0)] (pc' := 23) (by decide +kernel) (lv' := [some (.ref 0), some (.int (nI (tq_N t)))]) (st' := [.int (I 6 (tq_N t))]) (I' := I) (J' := J) rfl ?_
    exact EV_iret C hZ rfl (by decide +kernel) (Nat.le_refl _) (Nat.le_refl _) ⟨tq_some (by simp only [r_X11_rank, if_neg h1]), rfl, rfl, rfl, rfl⟩
def r_X11_size (I : tq_I) (q : Int32) (w h o c L : Nat) : Int32 := (if q = (nI 0) then (I 2 0) else (if q = (nI 1) then (I 2 1) else (if q = (nI 2) then (r_X3_countPaths I w h) else (-3))))
set_option maxRecDepth 20000 in
theorem c_X11_size (g : tq_G) (rest : List tq_S) (I : tq_I) (J : Int64) (q : Int32) (w h o c L : Nat) (k : tq_ok I w h o c L) : CT g mX11_size 3 0 0 [.ref 0, .int q] (tq_SC ++ rest) tq_RR I J (tq_ret (tq_SC ++ rest) tq_RR (some (.int (r_X11_size I q w h o c L))) I J) := by
  refine CT.ret kX11_size (Nat.le_of_ble_eq_true rfl) (fun x0 C hR hZ => ?_)
  refine EV_en (lv' := [some (.ref 0), some (.int q)]) 0 rfl ?_
  refine EV_blk (own := 11) C rfl [(.iload_n 1, 0, 0, 0, 0)] (pc' := 1) (by decide +kernel) (lv' := [some (.ref 0), some (.int q)]) (st' := [.int q]) (I' := I) (J' := J) rfl ?_
  by_cases e1 : q = (nI 0)
  · skip
    refine EV_tableIn (dflt := 60) (lo := 0) (hi := 2) (offs := #[27, 38, 49]) (len := 27) (off := 27) (tgt := 28) C (by decide +kernel) (by rw [e1]; decide) (by rw [e1]; decide) (by rw [e1]; rfl) (by decide) ?_
    refine EV_blk (own := 11) C rfl [(.aload_n 0, 0, 0, 0, 0), (.getfield 12, 11, 0, 368, 0), (.getfield 77, 8, 0, 193, 0), (.getfield 81, 3, 0, 98, 0)] (pc' := 38) (by decide +kernel) (lv' := [some (.ref 0), some (.int q)]) (st' := [.int (I 2 0)]) (I' := I) (J' := J) rfl ?_
    exact EV_iret C hZ rfl (by decide +kernel) (Nat.le_refl _) (Nat.le_refl _) ⟨tq_some (by simp only [r_X11_size, if_pos e1]), rfl, rfl, rfl, rfl⟩
  · skip
    by_cases e2 : q = (nI 1)
    · skip
      refine EV_tableIn (dflt := 60) (lo := 0) (hi := 2) (offs := #[27, 38, 49]) (len := 27) (off := 38) (tgt := 39) C (by decide +kernel) (by rw [e2]; decide) (by rw [e2]; decide) (by rw [e2]; rfl) (by decide) ?_
      refine EV_blk (own := 11) C rfl [(.aload_n 0, 0, 0, 0, 0), (.getfield 12, 11, 0, 368, 0), (.getfield 77, 8, 0, 193, 0), (.getfield 87, 3, 1, 102, 0)] (pc' := 49) (by decide +kernel) (lv' := [some (.ref 0), some (.int q)]) (st' := [.int (I 2 1)]) (I' := I) (J' := J) rfl ?_
      exact EV_iret C hZ rfl (by decide +kernel) (Nat.le_refl _) (Nat.le_refl _) ⟨tq_some (by simp only [r_X11_size, if_neg e1, if_pos e2]), rfl, rfl, rfl, rfl⟩
    · skip
      by_cases e3 : q = (nI 2)
      · skip
        refine EV_tableIn (dflt := 60) (lo := 0) (hi := 2) (offs := #[27, 38, 49]) (len := 27) (off := 49) (tgt := 50) C (by decide +kernel) (by rw [e3]; decide) (by rw [e3]; decide) (by rw [e3]; rfl) (by decide) ?_
        refine EV_blk (own := 11) C rfl [(.aload_n 0, 0, 0, 0, 0), (.getfield 12, 11, 0, 368, 0), (.getfield 77, 8, 0, 193, 0)] (pc' := 57) (by decide +kernel) (lv' := [some (.ref 0), some (.int q)]) (st' := [.ref 2]) (I' := I) (J' := J) rfl ?_
        refine EV_cV (own := 11) (idx := 90) (μ' := mX3_countPaths) (b := 2) (cb := 3) (av := []) (rest := []) C hR rfl (Or.inl ⟨437, by decide⟩) kX3_countPaths sX3_countPaths (c_X3_countPaths g rest I J w h k.hw k.hh k.w10 k.h10) rfl rfl (by decide +kernel) rfl (by decide) (Nat.le_of_ble_eq_true rfl) rfl ⟨Nat.zero_le _, Nat.zero_le _⟩ ?_
        exact EV_iret C hZ rfl (by decide +kernel) (Nat.le_refl _) (Nat.le_refl _) ⟨tq_some (by simp only [r_X11_size, if_neg e1, if_neg e2, if_pos e3]), rfl, rfl, rfl, rfl⟩
      · skip
        refine EV_tableOut (dflt := 60) (lo := 0) (hi := 2) (offs := #[27, 38, 49]) (len := 27) (tgt := 61) C (by decide +kernel) (tq_swo (n := 2) (by decide) (fun q hq => by rcases (show q = 0 ∨ q = 1 ∨ q = 2 by omega) with rfl | rfl | rfl <;> assumption)) (by decide) ?_
        refine EV_blk (own := 11) C rfl [(.bipush (-3), 0, 0, 0, (-3))] (pc' := 63) (by decide +kernel) (lv' := [some (.ref 0), some (.int q)]) (st' := [.int (-3)]) (I' := I) (J' := J) rfl ?_
        exact EV_iret C hZ rfl (by decide +kernel) (Nat.le_refl _) (Nat.le_refl _) ⟨tq_some (by simp only [r_X11_size, if_neg e1, if_neg e2, if_neg e3]), rfl, rfl, rfl, rfl⟩
def r_X11_setCorner (I : tq_I) (x y t : Int32) (w h o c L : Nat) : Int32 := (if (tq_b (tq_corner I x y)) = 0 then (-2) else (if (tq_b ((nI 0).toInt ≤ t.toInt ∧ t.toInt ≤ (nI 5).toInt)) = 0 then (-2) else ((tq_rec I o c) 3 ((tq_N y) * 11 + (tq_N x)))))
def I_X11_setCorner (I : tq_I) (x y t : Int32) (w h o c L : Nat) : tq_I := (if (tq_b (tq_corner I x y)) = 0 then I else (if (tq_b ((nI 0).toInt ≤ t.toInt ∧ t.toInt ≤ (nI 5).toInt)) = 0 then I else (I_X8_changeCorner (tq_rec I o c) (tq_N x) (tq_N y) t)))
set_option maxRecDepth 20000 in
theorem c_X11_setCorner (g : tq_G) (rest : List tq_S) (I : tq_I) (J : Int64) (x y t : Int32) (w h o c L : Nat) (k : tq_ok I w h o c L) : CT g mX11_setCorner 6 0 0 [.ref 0, .int x, .int y, .int t] (tq_SC ++ rest) tq_RR I J (tq_ret (tq_SC ++ rest) tq_RR (some (.int (r_X11_setCorner I x y t w h o c L))) (I_X11_setCorner I x y t w h o c L) J) := by
  refine CT.ret kX11_setCorner (Nat.le_of_ble_eq_true rfl) (fun x0 C hR hZ => ?_)
  refine EV_en (lv' := [some (.ref 0), some (.int x), some (.int y), some (.int t), none]) 1 rfl ?_
  refine EV_blk (own := 11) C rfl [(.aload_n 0, 0, 0, 0, 0), (.getfield 12, 11, 0, 368, 0), (.getfield 77, 8, 0, 193, 0), (.iload_n 1, 0, 0, 0, 0), (.iload_n 2, 0, 0, 0, 0)] (pc' := 9) (by decide +kernel) (lv' := [some (.ref 0), some (.int x), some (.int y), some (.int t), none]) (st' := [.int y, .int x, .ref 2]) (I' := I) (J' := J) rfl ?_
  refine EV_cV (own := 11) (idx := 94) (μ' := mX3_isCorner) (b := 2) (cb := 3) (av := [.int x, .int y]) (rest := []) C hR rfl (Or.inl ⟨450, by decide⟩) kX3_isCorner sX3_isCorner (c_X3_isCorner g rest I J x y ) rfl rfl (by decide +kernel) rfl (by decide) (Nat.le_of_ble_eq_true rfl) rfl ⟨Nat.zero_le _, Nat.zero_le _⟩ ?_
  refine EV_if_eq (off := 10) (tgt := 22) C (by decide +kernel) (by decide) (fun h1 => ?_) (fun h1 => ?_)
  · skip
    refine EV_blk (own := 11) C rfl [(.bipush (-2), 0, 0, 0, (-2))] (pc' := 24) (by decide +kernel) (lv' := [some (.ref 0), some (.int x), some (.int y), some (.int t), none]) (st' := [.int (-2)]) (I' := I) (J' := J) rfl ?_
    exact EV_iret C hZ rfl (by decide +kernel) (Nat.le_refl _) (Nat.le_refl _) ⟨tq_some (by simp only [r_X11_setCorner, if_pos h1]), rfl, rfl, by simp only [I_X11_setCorner, if_pos h1], rfl⟩
  · skip
    have h0 := tq_b10 h1
    have hxy := k.corner h0
    refine EV_blk (own := 11) C rfl [(.iload_n 3, 0, 0, 0, 0)] (pc' := 16) (by decide +kernel) (lv' := [some (.ref 0), some (.int x), some (.int y), some (.int t), none]) (st' := [.int t]) (I' := I) (J' := J) rfl ?_
    refine EV_cS (own := 11) (idx := 65) (μ' := mX11_isTerrain) (av := [.int t]) (rest := []) C hR rfl (Or.inl ⟨397, by decide⟩) kX11_isTerrain sX11_isTerrain (c_X11_isTerrain g rest I J t ) (by decide +kernel) rfl (by decide) (Nat.le_of_ble_eq_true rfl) rfl ⟨Nat.zero_le _, Nat.zero_le _⟩ ?_
    refine EV_if_ne (off := 6) (tgt := 25) C (by decide +kernel) (by decide) (fun h2 => ?_) (fun h2 => ?_)
    · skip
      have ht := tq_t05 (tq_b10 h2)
      refine EV_lve (lv' := [some (.ref 0), some (.int (nI (tq_N x))), some (.int (nI (tq_N y))), some (.int t), none]) (by rw [← tq_nIN h0.1, ← tq_nIN h0.2.2.1]) ?_
      refine EV_blk (own := 11) C rfl [(.aload_n 0, 0, 0, 0, 0), (.getfield 19, 11, 1, 369, 0), (.aload_n 0, 0, 0, 0, 0), (.getfield 12, 11, 0, 368, 0)] (pc' := 33) (by decide +kernel) (lv' := [some (.ref 0), some (.int (nI (tq_N x))), some (.int (nI (tq_N y))), some (.int t), none]) (st' := [.ref 1, .ref 17]) (I' := I) (J' := J) rfl ?_
      refine EV_cV (own := 11) (idx := 73) (μ' := mX2_record) (b := 17) (cb := 2) (av := [.ref 1]) (rest := []) C hR rfl (Or.inl ⟨403, by decide⟩) kX2_record sX2_record (c_X2_record g rest I J o c k.ho k.hc k.o5 k.c5 k.bd) rfl rfl (by decide +kernel) rfl (by decide) (Nat.le_of_ble_eq_true rfl) rfl ⟨Nat.zero_le _, Nat.zero_le _⟩ ?_
      refine EV_blk (own := 11) C rfl [(.aload_n 0, 0, 0, 0, 0), (.getfield 12, 11, 0, 368, 0), (.getfield 77, 8, 0, 193, 0), (.iload_n 1, 0, 0, 0, 0), (.iload_n 2, 0, 0, 0, 0)] (pc' := 45) (by decide +kernel) (lv' := [some (.ref 0), some (.int (nI (tq_N x))), some (.int (nI (tq_N y))), some (.int t), none]) (st' := [.int (nI (tq_N y)), .int (nI (tq_N x)), .ref 2]) (I' := (tq_rec I o c)) (J' := J) rfl ?_
      refine EV_cV (own := 11) (idx := 98) (μ' := mX3_terrainAt) (b := 2) (cb := 3) (av := [.int (nI (tq_N x)), .int (nI (tq_N y))]) (rest := []) C hR rfl (Or.inl ⟨454, by decide⟩) kX3_terrainAt sX3_terrainAt (c_X3_terrainAt g rest (tq_rec I o c) J (tq_N x) (tq_N y) (by omega) (by omega)) rfl rfl (by decide +kernel) rfl (by decide) (Nat.le_of_ble_eq_true rfl) rfl ⟨Nat.zero_le _, Nat.zero_le _⟩ ?_
      refine EV_blk (own := 11) C rfl [(.istore 4, 0, 0, 0, 0), (.aload_n 0, 0, 0, 0, 0), (.getfield 12, 11, 0, 368, 0), (.iload_n 1, 0, 0, 0, 0), (.iload_n 2, 0, 0, 0, 0), (.iload_n 3, 0, 0, 0, 0)] (pc' := 57) (by decide +kernel) (lv' := [some (.ref 0), some (.int (nI (tq_N x))), some (.int (nI (tq_N y))), some (.int t), some (.int ((tq_rec I o c) 3 ((tq_N y) * 11 + (tq_N x))))]) (st' := [.int t, .int (nI (tq_N y)), .int (nI (tq_N x)), .ref 1]) (I' := (tq_rec I o c)) (J' := J) rfl ?_
      refine EV_cV (own := 11) (idx := 102) (μ' := mX8_changeCorner) (b := 1) (cb := 8) (av := [.int (nI (tq_N x)), .int (nI (tq_N y)), .int t]) (rest := []) C hR rfl (Or.inl ⟨461, by decide⟩) kX8_changeCorner sX8_changeCorner (c_X8_changeCorner g rest (tq_rec I o c) J (tq_N x) (tq_N y) t (by omega) (by omega) k.rec.wh) rfl rfl (by decide +kernel) rfl (by decide) (Nat.le_of_ble_eq_true rfl) rfl ⟨Nat.zero_le _, Nat.zero_le _⟩ ?_
      refine EV_blk (own := 11) C rfl [(.pop, 0, 0, 0, 0), (.iload 4, 0, 0, 0, 0)] (pc' := 63) (by decide +kernel) (lv' := [some (.ref 0), some (.int (nI (tq_N x))), some (.int (nI (tq_N y))), some (.int t), some (.int ((tq_rec I o c) 3 ((tq_N y) * 11 + (tq_N x))))]) (st' := [.int ((tq_rec I o c) 3 ((tq_N y) * 11 + (tq_N x)))]) (I' := (I_X8_changeCorner (tq_rec I o c) (tq_N x) (tq_N y) t)) (J' := J) rfl ?_
      exact EV_iret C hZ rfl (by decide +kernel) (Nat.le_refl _) (Nat.le_refl _) ⟨tq_some (by simp only [r_X11_setCorner, if_neg h1, if_neg h2]), rfl, rfl, by simp only [I_X11_setCorner, if_neg h1, if_neg h2], rfl⟩
    · skip
      refine EV_blk (own := 11) C rfl [(.bipush (-2), 0, 0, 0, (-2))] (pc' := 24) (by decide +kernel) (lv' := [some (.ref 0), some (.int x), some (.int y), some (.int t), none]) (st' := [.int (-2)]) (I' := I) (J' := J) rfl ?_
      exact EV_iret C hZ rfl (by decide +kernel) (Nat.le_refl _) (Nat.le_refl _) ⟨tq_some (by simp only [r_X11_setCorner, if_neg h1, if_pos h2]), rfl, rfl, by simp only [I_X11_setCorner, if_neg h1, if_pos h2], rfl⟩
def r_X11_setPath (I : tq_I) (x y b : Int32) (w h o c L : Nat) : Int32 := (if (tq_b (tq_cell I x y)) = 0 then (-2) else (if b = 0 then ((tq_rec I o c) 4 ((tq_N y) * 10 + (tq_N x))) else ((tq_rec I o c) 4 ((tq_N y) * 10 + (tq_N x)))))
def I_X11_setPath (I : tq_I) (x y b : Int32) (w h o c L : Nat) : tq_I := (if (tq_b (tq_cell I x y)) = 0 then I else (if b = 0 then (I_X8_changePath (tq_rec I o c) (tq_N x) (tq_N y) (nI 0)) else (I_X8_changePath (tq_rec I o c) (tq_N x) (tq_N y) (nI 1))))
set_option maxRecDepth 20000 in
theorem c_X11_setPath (g : tq_G) (rest : List tq_S) (I : tq_I) (J : Int64) (x y b : Int32) (w h o c L : Nat) (k : tq_ok I w h o c L) : CT g mX11_setPath 6 0 0 [.ref 0, .int x, .int y, .int b] (tq_SC ++ rest) tq_RR I J (tq_ret (tq_SC ++ rest) tq_RR (some (.int (r_X11_setPath I x y b w h o c L))) (I_X11_setPath I x y b w h o c L) J) := by
  refine CT.ret kX11_setPath (Nat.le_of_ble_eq_true rfl) (fun x0 C hR hZ => ?_)
  refine EV_en (lv' := [some (.ref 0), some (.int x), some (.int y), some (.int b), none]) 1 rfl ?_
  refine EV_blk (own := 11) C rfl [(.aload_n 0, 0, 0, 0, 0), (.getfield 12, 11, 0, 368, 0), (.getfield 77, 8, 0, 193, 0), (.iload_n 1, 0, 0, 0, 0), (.iload_n 2, 0, 0, 0, 0)] (pc' := 9) (by decide +kernel) (lv' := [some (.ref 0), some (.int x), some (.int y), some (.int b), none]) (st' := [.int y, .int x, .ref 2]) (I' := I) (J' := J) rfl ?_
  refine EV_cV (own := 11) (idx := 153) (μ' := mX3_isCell) (b := 2) (cb := 3) (av := [.int x, .int y]) (rest := []) C hR rfl (Or.inl ⟨543, by decide⟩) kX3_isCell sX3_isCell (c_X3_isCell g rest I J x y ) rfl rfl (by decide +kernel) rfl (by decide) (Nat.le_of_ble_eq_true rfl) rfl ⟨Nat.zero_le _, Nat.zero_le _⟩ ?_
  refine EV_if_ne (off := 6) (tgt := 18) C (by decide +kernel) (by decide) (fun h1 => ?_) (fun h1 => ?_)
  · skip
    have h0 := tq_b10 h1
    have hxy := k.cell h0
    refine EV_lve (lv' := [some (.ref 0), some (.int (nI (tq_N x))), some (.int (nI (tq_N y))), some (.int b), none]) (by rw [← tq_nIN h0.1, ← tq_nIN h0.2.2.1]) ?_
    refine EV_blk (own := 11) C rfl [(.aload_n 0, 0, 0, 0, 0), (.getfield 19, 11, 1, 369, 0), (.aload_n 0, 0, 0, 0, 0), (.getfield 12, 11, 0, 368, 0)] (pc' := 26) (by decide +kernel) (lv' := [some (.ref 0), some (.int (nI (tq_N x))), some (.int (nI (tq_N y))), some (.int b), none]) (st' := [.ref 1, .ref 17]) (I' := I) (J' := J) rfl ?_
    refine EV_cV (own := 11) (idx := 73) (μ' := mX2_record) (b := 17) (cb := 2) (av := [.ref 1]) (rest := []) C hR rfl (Or.inl ⟨403, by decide⟩) kX2_record sX2_record (c_X2_record g rest I J o c k.ho k.hc k.o5 k.c5 k.bd) rfl rfl (by decide +kernel) rfl (by decide) (Nat.le_of_ble_eq_true rfl) rfl ⟨Nat.zero_le _, Nat.zero_le _⟩ ?_
    refine EV_blk (own := 11) C rfl [(.aload_n 0, 0, 0, 0, 0), (.getfield 12, 11, 0, 368, 0), (.getfield 77, 8, 0, 193, 0), (.iload_n 1, 0, 0, 0, 0), (.iload_n 2, 0, 0, 0, 0)] (pc' := 38) (by decide +kernel) (lv' := [some (.ref 0), some (.int (nI (tq_N x))), some (.int (nI (tq_N y))), some (.int b), none]) (st' := [.int (nI (tq_N y)), .int (nI (tq_N x)), .ref 2]) (I' := (tq_rec I o c)) (J' := J) rfl ?_
    refine EV_cV (own := 11) (idx := 156) (μ' := mX3_pathAt) (b := 2) (cb := 3) (av := [.int (nI (tq_N x)), .int (nI (tq_N y))]) (rest := []) C hR rfl (Or.inl ⟨544, by decide⟩) kX3_pathAt sX3_pathAt (c_X3_pathAt g rest (tq_rec I o c) J (tq_N x) (tq_N y) (by omega) (by omega)) rfl rfl (by decide +kernel) rfl (by decide) (Nat.le_of_ble_eq_true rfl) rfl ⟨Nat.zero_le _, Nat.zero_le _⟩ ?_
    refine EV_blk (own := 11) C rfl [(.istore 4, 0, 0, 0, 0), (.aload_n 0, 0, 0, 0, 0), (.getfield 12, 11, 0, 368, 0), (.iload_n 1, 0, 0, 0, 0), (.iload_n 2, 0, 0, 0, 0), (.iload_n 3, 0, 0, 0, 0)] (pc' := 50) (by decide +kernel) (lv' := [some (.ref 0), some (.int (nI (tq_N x))), some (.int (nI (tq_N y))), some (.int b), some (.int ((tq_rec I o c) 4 ((tq_N y) * 10 + (tq_N x))))]) (st' := [.int b, .int (nI (tq_N y)), .int (nI (tq_N x)), .ref 1]) (I' := (tq_rec I o c)) (J' := J) rfl ?_
    refine EV_if_eq (off := 7) (tgt := 57) C (by decide +kernel) (by decide) (fun h2 => ?_) (fun h2 => ?_)
    · skip
      refine EV_blk (own := 11) C rfl [(.iconst 0, 0, 0, 0, (nI 0))] (pc' := 58) (by decide +kernel) (lv' := [some (.ref 0), some (.int (nI (tq_N x))), some (.int (nI (tq_N y))), some (.int b), some (.int ((tq_rec I o c) 4 ((tq_N y) * 10 + (tq_N x))))]) (st' := [.int (nI 0), .int (nI (tq_N y)), .int (nI (tq_N x)), .ref 1]) (I' := (tq_rec I o c)) (J' := J) rfl ?_
      refine EV_cV (own := 11) (idx := 159) (μ' := mX8_changePath) (b := 1) (cb := 8) (av := [.int (nI (tq_N x)), .int (nI (tq_N y)), .int (nI 0)]) (rest := []) C hR rfl (Or.inl ⟨545, by decide⟩) kX8_changePath sX8_changePath (c_X8_changePath g rest (tq_rec I o c) J (tq_N x) (tq_N y) (nI 0) (by omega) (by omega) k.rec.wh) rfl rfl (by decide +kernel) rfl (by decide) (Nat.le_of_ble_eq_true rfl) rfl ⟨Nat.zero_le _, Nat.zero_le _⟩ ?_
      refine EV_blk (own := 11) C rfl [(.iload 4, 0, 0, 0, 0)] (pc' := 63) (by decide +kernel) (lv' := [some (.ref 0), some (.int (nI (tq_N x))), some (.int (nI (tq_N y))), some (.int b), some (.int ((tq_rec I o c) 4 ((tq_N y) * 10 + (tq_N x))))]) (st' := [.int ((tq_rec I o c) 4 ((tq_N y) * 10 + (tq_N x)))]) (I' := (I_X8_changePath (tq_rec I o c) (tq_N x) (tq_N y) (nI 0))) (J' := J) rfl ?_
      exact EV_iret C hZ rfl (by decide +kernel) (Nat.le_refl _) (Nat.le_refl _) ⟨tq_some (by simp only [r_X11_setPath, if_neg h1, if_pos h2]), rfl, rfl, by simp only [I_X11_setPath, if_neg h1, if_pos h2], rfl⟩
    · skip
      refine EV_blk (own := 11) C rfl [(.iconst 1, 0, 0, 0, (nI 1)), (.goto 4, 0, 0, 0, 0)] (pc' := 58) (by decide +kernel) (lv' := [some (.ref 0), some (.int (nI (tq_N x))), some (.int (nI (tq_N y))), some (.int b), some (.int ((tq_rec I o c) 4 ((tq_N y) * 10 + (tq_N x))))]) (st' := [.int (nI 1), .int (nI (tq_N y)), .int (nI (tq_N x)), .ref 1]) (I' := (tq_rec I o c)) (J' := J) rfl ?_
      refine EV_cV (own := 11) (idx := 159) (μ' := mX8_changePath) (b := 1) (cb := 8) (av := [.int (nI (tq_N x)), .int (nI (tq_N y)), .int (nI 1)]) (rest := []) C hR rfl (Or.inl ⟨545, by decide⟩) kX8_changePath sX8_changePath (c_X8_changePath g rest (tq_rec I o c) J (tq_N x) (tq_N y) (nI 1) (by omega) (by omega) k.rec.wh) rfl rfl (by decide +kernel) rfl (by decide) (Nat.le_of_ble_eq_true rfl) rfl ⟨Nat.zero_le _, Nat.zero_le _⟩ ?_
      refine EV_blk (own := 11) C rfl [(.iload 4, 0, 0, 0, 0)] (pc' := 63) (by decide +kernel) (lv' := [some (.ref 0), some (.int (nI (tq_N x))), some (.int (nI (tq_N y))), some (.int b), some (.int ((tq_rec I o c) 4 ((tq_N y) * 10 + (tq_N x))))]) (st' := [.int ((tq_rec I o c) 4 ((tq_N y) * 10 + (tq_N x)))]) (I' := (I_X8_changePath (tq_rec I o c) (tq_N x) (tq_N y) (nI 1))) (J' := J) rfl ?_
      exact EV_iret C hZ rfl (by decide +kernel) (Nat.le_refl _) (Nat.le_refl _) ⟨tq_some (by simp only [r_X11_setPath, if_neg h1, if_neg h2]), rfl, rfl, by simp only [I_X11_setPath, if_neg h1, if_neg h2], rfl⟩
  · skip
    refine EV_blk (own := 11) C rfl [(.bipush (-2), 0, 0, 0, (-2))] (pc' := 17) (by decide +kernel) (lv' := [some (.ref 0), some (.int x), some (.int y), some (.int b), none]) (st' := [.int (-2)]) (I' := I) (J' := J) rfl ?_
    exact EV_iret C hZ rfl (by decide +kernel) (Nat.le_refl _) (Nat.le_refl _) ⟨tq_some (by simp only [r_X11_setPath, if_pos h1]), rfl, rfl, by simp only [I_X11_setPath, if_pos h1], rfl⟩
theorem tq_w10 {v : Int32} (h : (nI 1).toInt ≤ v.toInt ∧ v.toInt ≤ (nI 10).toInt) : 0 ≤ v.toInt ∧ 1 ≤ tq_N v ∧ tq_N v ≤ 10 := by
  have e1 : (nI 1).toInt = 1 := by decide
  have e2 : (nI 10).toInt = 10 := by decide
  unfold tq_N
  omega
def r_X11_begin (I : tq_I) (W H t : Int32) (w h o c L : Nat) : Int32 := (if (tq_b ((nI 0).toInt ≤ t.toInt ∧ t.toInt ≤ (nI 5).toInt)) = 0 then (-2) else (if (tq_b ((nI 1).toInt ≤ W.toInt ∧ W.toInt ≤ (nI 10).toInt)) = 0 then (-3) else (if (tq_b ((nI 1).toInt ≤ H.toInt ∧ H.toInt ≤ (nI 10).toInt)) = 0 then (-3) else ((nI (tq_N W)) * (nI (tq_N H))))))
def I_X11_begin (I : tq_I) (W H t : Int32) (w h o c L : Nat) : tq_I := (if (tq_b ((nI 0).toInt ≤ t.toInt ∧ t.toInt ≤ (nI 5).toInt)) = 0 then I else (if (tq_b ((nI 1).toInt ≤ W.toInt ∧ W.toInt ≤ (nI 10).toInt)) = 0 then I else (if (tq_b ((nI 1).toInt ≤ H.toInt ∧ H.toInt ≤ (nI 10).toInt)) = 0 then I else (I_X8_startMap (tq_rec I o c) (tq_N W) (tq_N H) t))))
set_option maxRecDepth 20000 in
theorem c_X11_begin (g : tq_G) (rest : List tq_S) (I : tq_I) (J : Int64) (W H t : Int32) (w h o c L : Nat) (k : tq_ok I w h o c L) : CT g mX11_begin 6 0 0 [.ref 0, .int W, .int H, .int t] (tq_SC ++ rest) tq_RR I J (tq_ret (tq_SC ++ rest) tq_RR (some (.int (r_X11_begin I W H t w h o c L))) (I_X11_begin I W H t w h o c L) J) := by
  refine CT.ret kX11_begin (Nat.le_of_ble_eq_true rfl) (fun x0 C hR hZ => ?_)
  refine EV_en (lv' := [some (.ref 0), some (.int W), some (.int H), some (.int t)]) 0 rfl ?_
  refine EV_blk (own := 11) C rfl [(.iload_n 3, 0, 0, 0, 0)] (pc' := 1) (by decide +kernel) (lv' := [some (.ref 0), some (.int W), some (.int H), some (.int t)]) (st' := [.int t]) (I' := I) (J' := J) rfl ?_
  refine EV_cS (own := 11) (idx := 65) (μ' := mX11_isTerrain) (av := [.int t]) (rest := []) C hR rfl (Or.inl ⟨397, by decide⟩) kX11_isTerrain sX11_isTerrain (c_X11_isTerrain g rest I J t ) (by decide +kernel) rfl (by decide) (Nat.le_of_ble_eq_true rfl) rfl ⟨Nat.zero_le _, Nat.zero_le _⟩ ?_
  refine EV_if_ne (off := 6) (tgt := 10) C (by decide +kernel) (by decide) (fun h1 => ?_) (fun h1 => ?_)
  · skip
    have ht := tq_t05 (tq_b10 h1)
    refine EV_blk (own := 11) C rfl [(.iload_n 1, 0, 0, 0, 0), (.iconst 1, 0, 0, 0, (nI 1)), (.bipush 10, 0, 0, 0, (nI 10))] (pc' := 14) (by decide +kernel) (lv' := [some (.ref 0), some (.int W), some (.int H), some (.int t)]) (st' := [.int (nI 10), .int (nI 1), .int W]) (I' := I) (J' := J) rfl ?_
    refine EV_cS (own := 11) (idx := 69) (μ' := mX11_isWithin) (av := [.int W, .int (nI 1), .int (nI 10)]) (rest := []) C hR rfl (Or.inl ⟨400, by decide⟩) kX11_isWithin sX11_isWithin (c_X11_isWithin g rest I J W (nI 1) (nI 10) ) (by decide +kernel) rfl (by decide) (Nat.le_of_ble_eq_true rfl) rfl ⟨Nat.zero_le _, Nat.zero_le _⟩ ?_
    refine EV_if_eq (off := 13) (tgt := 30) C (by decide +kernel) (by decide) (fun h2 => ?_) (fun h2 => ?_)
    · skip
      refine EV_blk (own := 11) C rfl [(.bipush (-3), 0, 0, 0, (-3))] (pc' := 32) (by decide +kernel) (lv' := [some (.ref 0), some (.int W), some (.int H), some (.int t)]) (st' := [.int (-3)]) (I' := I) (J' := J) rfl ?_
      exact EV_iret C hZ rfl (by decide +kernel) (Nat.le_refl _) (Nat.le_refl _) ⟨tq_some (by simp only [r_X11_begin, if_neg h1, if_pos h2]), rfl, rfl, by simp only [I_X11_begin, if_neg h1, if_pos h2], rfl⟩
    · skip
      have hW := tq_w10 (tq_b10 h2)
      refine EV_blk (own := 11) C rfl [(.iload_n 2, 0, 0, 0, 0), (.iconst 1, 0, 0, 0, (nI 1)), (.bipush 10, 0, 0, 0, (nI 10))] (pc' := 24) (by decide +kernel) (lv' := [some (.ref 0), some (.int W), some (.int H), some (.int t)]) (st' := [.int (nI 10), .int (nI 1), .int H]) (I' := I) (J' := J) rfl ?_
      refine EV_cS (own := 11) (idx := 69) (μ' := mX11_isWithin) (av := [.int H, .int (nI 1), .int (nI 10)]) (rest := []) C hR rfl (Or.inl ⟨400, by decide⟩) kX11_isWithin sX11_isWithin (c_X11_isWithin g rest I J H (nI 1) (nI 10) ) (by decide +kernel) rfl (by decide) (Nat.le_of_ble_eq_true rfl) rfl ⟨Nat.zero_le _, Nat.zero_le _⟩ ?_
      refine EV_if_ne (off := 6) (tgt := 33) C (by decide +kernel) (by decide) (fun h3 => ?_) (fun h3 => ?_)
      · skip
        have hH := tq_w10 (tq_b10 h3)
        refine EV_lve (lv' := [some (.ref 0), some (.int (nI (tq_N W))), some (.int (nI (tq_N H))), some (.int t)]) (by rw [← tq_nIN hW.1, ← tq_nIN hH.1]) ?_
        refine EV_blk (own := 11) C rfl [(.aload_n 0, 0, 0, 0, 0), (.getfield 19, 11, 1, 369, 0), (.aload_n 0, 0, 0, 0, 0), (.getfield 12, 11, 0, 368, 0)] (pc' := 41) (by decide +kernel) (lv' := [some (.ref 0), some (.int (nI (tq_N W))), some (.int (nI (tq_N H))), some (.int t)]) (st' := [.ref 1, .ref 17]) (I' := I) (J' := J) rfl ?_
        refine EV_cV (own := 11) (idx := 73) (μ' := mX2_record) (b := 17) (cb := 2) (av := [.ref 1]) (rest := []) C hR rfl (Or.inl ⟨403, by decide⟩) kX2_record sX2_record (c_X2_record g rest I J o c k.ho k.hc k.o5 k.c5 k.bd) rfl rfl (by decide +kernel) rfl (by decide) (Nat.le_of_ble_eq_true rfl) rfl ⟨Nat.zero_le _, Nat.zero_le _⟩ ?_
        refine EV_blk (own := 11) C rfl [(.aload_n 0, 0, 0, 0, 0), (.getfield 12, 11, 0, 368, 0), (.iload_n 1, 0, 0, 0, 0), (.iload_n 2, 0, 0, 0, 0), (.iload_n 3, 0, 0, 0, 0)] (pc' := 51) (by decide +kernel) (lv' := [some (.ref 0), some (.int (nI (tq_N W))), some (.int (nI (tq_N H))), some (.int t)]) (st' := [.int t, .int (nI (tq_N H)), .int (nI (tq_N W)), .ref 1]) (I' := (tq_rec I o c)) (J' := J) rfl ?_
        refine EV_cV (own := 11) (idx := 61) (μ' := mX8_startMap) (b := 1) (cb := 8) (av := [.int (nI (tq_N W)), .int (nI (tq_N H)), .int t]) (rest := []) C hR rfl (Or.inl ⟨345, by decide⟩) kX8_startMap sX8_startMap (c_X8_startMap g rest (tq_rec I o c) J (tq_N W) (tq_N H) t (by omega) (by omega)) rfl rfl (by decide +kernel) rfl (by decide) (Nat.le_of_ble_eq_true rfl) rfl ⟨Nat.zero_le _, Nat.zero_le _⟩ ?_
        refine EV_blk (own := 11) C rfl [(.iload_n 1, 0, 0, 0, 0), (.iload_n 2, 0, 0, 0, 0), (.imul, 0, 0, 0, 0)] (pc' := 57) (by decide +kernel) (lv' := [some (.ref 0), some (.int (nI (tq_N W))), some (.int (nI (tq_N H))), some (.int t)]) (st' := [.int ((nI (tq_N W)) * (nI (tq_N H)))]) (I' := (I_X8_startMap (tq_rec I o c) (tq_N W) (tq_N H) t)) (J' := J) rfl ?_
        exact EV_iret C hZ rfl (by decide +kernel) (Nat.le_refl _) (Nat.le_refl _) ⟨tq_some (by simp only [r_X11_begin, if_neg h1, if_neg h2, if_neg h3]), rfl, rfl, by simp only [I_X11_begin, if_neg h1, if_neg h2, if_neg h3], rfl⟩
      · skip
        refine EV_blk (own := 11) C rfl [(.bipush (-3), 0, 0, 0, (-3))] (pc' := 32) (by decide +kernel) (lv' := [some (.ref 0), some (.int W), some (.int H), some (.int t)]) (st' := [.int (-3)]) (I' := I) (J' := J) rfl ?_
        exact EV_iret C hZ rfl (by decide +kernel) (Nat.le_refl _) (Nat.le_refl _) ⟨tq_some (by simp only [r_X11_begin, if_neg h1, if_neg h2, if_pos h3]), rfl, rfl, by simp only [I_X11_begin, if_neg h1, if_neg h2, if_pos h3], rfl⟩
  · skip
    refine EV_blk (own := 11) C rfl [(.bipush (-2), 0, 0, 0, (-2))] (pc' := 9) (by decide +kernel) (lv' := [some (.ref 0), some (.int W), some (.int H), some (.int t)]) (st' := [.int (-2)]) (I' := I) (J' := J) rfl ?_
    exact EV_iret C hZ rfl (by decide +kernel) (Nat.le_refl _) (Nat.le_refl _) ⟨tq_some (by simp only [r_X11_begin, if_pos h1]), rfl, rfl, by simp only [I_X11_begin, if_pos h1], rfl⟩
