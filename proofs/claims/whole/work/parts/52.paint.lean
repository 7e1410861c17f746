/-! painting -/
section TWA
variable {A B A' B' : tq_I} {w h o c L : Nat}
theorem tw_isStale (k : tw_inv A B w h o c L) (x y : Int32) : r_X11_isStale A x y w h o c L = r_X12_isStale B x y w h ∧ tw_inv (I_X11_isStale A x y w h o c L) (I_X12_isStale B x y w h) w h o c L := by
  unfold r_X11_isStale r_X12_isStale I_X11_isStale I_X12_isStale
  rw [k.cellE]
  split
  · exact ⟨rfl, k⟩
  · rename_i hc
    obtain ⟨h1, h2, -, -⟩ := k.ok.cell (tq_b10 hc)
    obtain ⟨e1, e2⟩ := tw_staleAt k h1 h2
    refine ⟨?_, ?_⟩
    · rw [e1]
      rcases e2 with e2 | e2 <;> rw [e2] <;> decide
    · simp only [ite_self]
      rw [tr_stl]
      unfold I_X11_staleAt
      simp only [ite_self]
      exact (k.drA _ _).fpB _ _
theorem tw_touched (k : tw_inv A B w h o c L) : r_X11_touched A w h = r_X12_touched B := by
  have hw := k.w1
  have := tw_nest (F := fun y => f_to1 A y w h) (F2 := f_to2 A w h) (G := f_mto1 B) (fun _ (a b : Int32) => a = b) (W := 10) (H := 10) (w := w) (h := h) hw.2.1 hw.2.2.2 (fun y a => rfl) (fun x y a b hx hy hab => by
      unfold f_to1 f_mto1
      rw [hab, (k.X (j := y * 10 + x) (by omega)).1]) (fun x y a b hx hy hn hab => by
      unfold f_mto1
      rw [(k.X (j := y * 10 + x) (by omega)).2.2 (by unfold tw_in; omega), hab]
      exact (Int32.add_zero b).symm) (a := nI 0) (b := nI 0) rfl
  exact this
theorem tw_inv.cel (k : tw_inv A B w h o c L) {i : Nat} (hi : i < 100) : tr_cell B (nI (i % 10)) (nI (i / 10)) ↔ i % 10 < w ∧ i / 10 < h := by
  rw [k.twh.cell, nI_toInt (by omega), nI_toInt (by omega)]
  omega
theorem tw_stale (k : tw_inv A B w h o c L) : r_X11_stale A w h o c L = r_X12_stale B w h ∧ tw_inv (I_X11_stale A w h o c L) (I_X12_stale B w h) w h o c L := by
  have hw := k.w1
  have key := tw_nest (F := fun q => f_st1 q w h o c L) (F2 := f_st2 w h o c L) (G := f_mst2 w h) (fun _ (a : Int32 × tq_I) (b : Int32 × tq_I) => a.1 = b.1 ∧ tw_inv a.2 b.2 w h o c L) (W := 10) (H := 10) (w := w) (h := h) hw.2.1 hw.2.2.2 (fun q a => rfl) (fun x y a b hx hy hab => by
      obtain ⟨e, q⟩ := hab
      have hc : ¬ tq_b (tr_cell b.2 (nI ((y * 10 + x) % 10)) (nI ((y * 10 + x) / 10))) = 0 := fun z => tq_b0.mp z ((q.cel (by omega)).mpr (by omega))
      obtain ⟨e1, e2⟩ := tw_staleAt q hx hy
      unfold f_st1 f_mst2
      rw [if_neg hc, show (y * 10 + x) % 10 = x by omega, show (y * 10 + x) / 10 = y by omega, tr_stl, e1, e]
      have eI : I_X11_staleAt a.2 x y w h o c L = I_X7_draw a.2 x y := by unfold I_X11_staleAt; simp only [ite_self]
      rw [eI]
      rcases e2 with e2 | e2 <;> rw [e2]
      · rw [if_pos (by decide)]; exact ⟨rfl, (q.drA _ _).fpB _ _⟩
      · rw [if_neg (by decide)]; exact ⟨rfl, (q.drA _ _).fpB _ _⟩) (fun x y a b hx hy hn hab => by
      have hc : tq_b (tr_cell b.2 (nI ((y * 10 + x) % 10)) (nI ((y * 10 + x) / 10))) = 0 := tq_b0.mpr (fun z => hn (by have := (hab.2.cel (i := y * 10 + x) (by omega)).mp z; omega))
      unfold f_mst2
      rw [if_pos hc]
      exact ⟨by show a.1 = b.1 + nI 0; rw [tw_z0]; exact hab.1, hab.2⟩) (a := (nI 0, A)) (b := (nI 0, B)) ⟨rfl, k⟩
  exact key
/-- a cell painted, on both sides -/
theorem tw_pnt (k : tw_inv A B w h o c L) {x y : Nat} (hx : x < w) (hy : y < h) : r_X11_renew A x y w h o c L = r_X12_paints B x y w h ∧ tw_inv (I_X11_renew A x y w h o c L) (I_X12_paints B x y w h) w h o c L := by
  have hw := k.w1
  obtain ⟨e1, e2⟩ := tw_staleAt k hx hy
  obtain ⟨p, hp, y1, y2, y3⟩ := tw_pieces k hx hy
  have k1 := (k.drA x y).fpB x y
  have e6 := tw_draw6 k hx hy
  have e6' := tw_draw6 (k.fpB x y) hx hy
  refine ⟨?_, ?_⟩
  · show r_X11_staleAt A x y w h o c L = _
    unfold r_X12_paints
    rw [e1]
    rcases e2 with e2 | e2 <;> rw [e2] <;> decide
  · rw [tm_renewI]
    have eP : ∃ was, I_X12_paints B x y w h = (tq_u (tq_it (f_mpa1 x y (343 + 10 * (10 * y + x)) p was) p 0 (tq_u (tq_u (I_X12_findsPieces B x y w h) 118 (343 + 10 * (10 * y + x)) (nI p)) 118 ((343 + 10 * (10 * y + x)) + 1) (r_X12_pathTileOf (tq_u (I_X12_findsPieces B x y w h) 118 (343 + 10 * (10 * y + x)) (nI p)) (nI x) (nI y) w h))) 118 ((243 + (10 * y)) + x) (nI 0)) := by
      unfold I_X12_paints
      rw [tr_stl, y2, tq_N_nI (by omega)]
      split
      · exact ⟨_, rfl⟩
      · exact ⟨_, rfl⟩
    obtain ⟨was, eP⟩ := eP
    rw [eP, y1, tq_N_nI (by omega)]
    -- the tile in the store that is half written
    have kT : r_X12_pathTileOf (tq_u (I_X12_findsPieces B x y w h) 118 (343 + 10 * (10 * y + x)) (nI p)) (nI x) (nI y) w h = I_X7_draw A x y 102 6 := by
      rw [e6']
      unfold r_X12_pathTileOf r_X12_maskOf r_X12_pathOf
      rfl
    sorry
end TWA
