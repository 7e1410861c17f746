/-! painting -/
theorem tw_pathC {I K : tq_I} {w h : Nat} (k : tr_wh I w h) (e : ∀ j, j < 243 → K 118 j = I 118 j) (x y : Int32) : r_X12_pathOf K x y w h = r_X12_pathOf I x y w h := by
  have k' : tr_wh K w h := k.cong (e 0 (by decide)) (e 1 (by decide))
  have hw := k.2.2
  unfold r_X12_pathOf
  rw [tw_bq (k'.cell.trans k.cell.symm), e 3 (by decide)]
  by_cases hc : tr_cell I x y
  · have hc' := k.cell.mp hc
    rw [e (143 + 10 * tq_N y + tq_N x) (by unfold tq_N; omega)]
  · rw [if_pos (tq_b0.mpr hc), if_pos (tq_b0.mpr hc)]
theorem tw_tileC {I K : tq_I} {w h : Nat} (k : tr_wh I w h) (e : ∀ j, j < 243 → K 118 j = I 118 j) (e2 : ∀ j, K 122 j = I 122 j ∧ K 123 j = I 123 j) (x y : Int32) : r_X12_pathTileOf K x y w h = r_X12_pathTileOf I x y w h := by
  have mk : r_X12_maskOf K x y w h = r_X12_maskOf I x y w h := by
    have f1 : f_mk1 K x y w h = f_mk1 I x y w h := by
      funext i a
      unfold f_mk1
      rw [tw_pathC k e, (e2 i).1, (e2 i).2]
    unfold r_X12_maskOf
    rw [tw_pathC k e, f1]
    rfl
  unfold r_X12_pathTileOf
  rw [mk]
  rfl
theorem tw_mpa {x y at_ p : Nat} {was : Int32} (n : Nat) (a : tq_I) (j : Nat) : tq_it (f_mpa1 x y at_ p was) n 0 a 118 j = if at_ + 2 ≤ j ∧ j < at_ + 2 + n then a 127 (j - (at_ + 2)) else a 118 j := by
  have := tw_it0 (f := f_mpa1 x y at_ p was) (fun n (b : tq_I) => (∀ j, b 127 j = a 127 j) ∧ ∀ j, b 118 j = if at_ + 2 ≤ j ∧ j < at_ + 2 + n then a 127 (j - (at_ + 2)) else a 118 j) n a ⟨fun _ => rfl, fun j => by rw [if_neg (by omega)]⟩ (fun i b hi hb => by
    unfold f_mpa1
    refine ⟨fun j => by rw [tq_u_cell (by decide)]; exact hb.1 j, fun j => ?_⟩
    by_cases c1 : j = at_ + 2 + i
    · rw [c1, tq_u_same, hb.1, if_pos (by omega), show at_ + 2 + i - (at_ + 2) = i by omega]
    · rw [tq_u_slot c1, hb.2]
      by_cases c2 : at_ + 2 ≤ j ∧ j < at_ + 2 + i
      · rw [if_pos c2, if_pos (by omega)]
      · rw [if_neg c2, if_neg (by omega)])
  exact this.2 j
section TWA
variable {A B A' B' : tq_I} {w h o c L : Nat}
theorem tw_isStale (k : tw_inv A B w h o c L) (x y : Int32) : r_X11_isStale A x y w h o c L = r_X12_isStale B x y w h ∧ tw_inv (I_X11_isStale A x y w h o c L) (I_X12_isStale B x y w h) w h o c L := by
  unfold r_X11_isStale r_X12_isStale I_X11_isStale I_X12_isStale
  rw [k.cellE]
  split
  · exact ⟨rfl, k⟩
  · rename_i hc
    obtain ⟨h1, h2, -, -⟩ := k.ok.cell (tq_b10 hc)
    obtain ⟨e1, e2⟩ := tw_staleAt k h1 h2
    refine ⟨?_, ?_⟩
    · rw [e1]
      rcases e2 with e2 | e2 <;> rw [e2] <;> decide
    · simp only [ite_self]
      rw [tr_stl]
      unfold I_X11_staleAt
      simp only [ite_self]
      exact (k.drA _ _).fpB _ _
theorem tw_touched (k : tw_inv A B w h o c L) : r_X11_touched A w h = r_X12_touched B := by
  have hw := k.w1
  have := tw_nest (F := fun y => f_to1 A y w h) (F2 := f_to2 A w h) (G := f_mto1 B) (fun _ (a b : Int32) => a = b) (W := 10) (H := 10) (w := w) (h := h) hw.2.1 hw.2.2.2 (fun y a => rfl) (fun x y a b hx hy hab => by
      unfold f_to1 f_mto1
      rw [hab, (k.X (j := y * 10 + x) (by omega)).1]) (fun x y a b hx hy hn hab => by
      unfold f_mto1
      rw [(k.X (j := y * 10 + x) (by omega)).2.2 (by unfold tw_in; omega), hab]
      exact (Int32.add_zero b).symm) (a := nI 0) (b := nI 0) rfl
  exact this
theorem tw_inv.cel (k : tw_inv A B w h o c L) {i : Nat} (hi : i < 100) : tr_cell B (nI (i % 10)) (nI (i / 10)) ↔ i % 10 < w ∧ i / 10 < h := by
  rw [k.twh.cell, nI_toInt (by omega), nI_toInt (by omega)]
  omega
theorem tw_stale (k : tw_inv A B w h o c L) : r_X11_stale A w h o c L = r_X12_stale B w h ∧ tw_inv (I_X11_stale A w h o c L) (I_X12_stale B w h) w h o c L := by
  have hw := k.w1
  have key := tw_nest (F := fun q => f_st1 q w h o c L) (F2 := f_st2 w h o c L) (G := f_mst2 w h) (fun _ (a : Int32 × tq_I) (b : Int32 × tq_I) => a.1 = b.1 ∧ tw_inv a.2 b.2 w h o c L) (W := 10) (H := 10) (w := w) (h := h) hw.2.1 hw.2.2.2 (fun q a => rfl) (fun x y a b hx hy hab => by
      obtain ⟨e, q⟩ := hab
      have hc : ¬ tq_b (tr_cell b.2 (nI ((y * 10 + x) % 10)) (nI ((y * 10 + x) / 10))) = 0 := fun z => tq_b0.mp z ((q.cel (by omega)).mpr (by omega))
      obtain ⟨e1, e2⟩ := tw_staleAt q hx hy
      unfold f_st1 f_mst2
      rw [if_neg hc, show (y * 10 + x) % 10 = x by omega, show (y * 10 + x) / 10 = y by omega, tr_stl, e1, e]
      have eI : I_X11_staleAt a.2 x y w h o c L = I_X7_draw a.2 x y := by unfold I_X11_staleAt; simp only [ite_self]
      rw [eI]
      rcases e2 with e2 | e2 <;> rw [e2]
      · rw [if_pos (by decide)]; dsimp only; exact ⟨rfl, (q.drA x y).fpB x y⟩
      · rw [if_neg (by decide)]; dsimp only; exact ⟨rfl, (q.drA x y).fpB x y⟩) (fun x y a b hx hy hn hab => by
      have hc : tq_b (tr_cell b.2 (nI ((y * 10 + x) % 10)) (nI ((y * 10 + x) / 10))) = 0 := tq_b0.mpr (fun z => hn (by have := (hab.2.cel (i := y * 10 + x) (by omega)).mp z; omega))
      unfold f_mst2
      rw [if_pos hc]
      exact ⟨by show a.1 = b.1 + nI 0; rw [tw_z0]; exact hab.1, hab.2⟩) (a := (nI 0, A)) (b := (nI 0, B)) ⟨rfl, k⟩
  unfold r_X11_stale r_X12_stale I_X11_stale I_X12_stale
  exact ⟨key.1, key.2⟩
/-- a cell painted, on both sides -/
theorem tw_pnt (k : tw_inv A B w h o c L) {x y : Nat} (hx : x < w) (hy : y < h) : r_X11_renew A x y w h o c L = r_X12_paints B x y w h ∧ tw_inv (I_X11_renew A x y w h o c L) (I_X12_paints B x y w h) w h o c L := by
  have hw := k.w1
  obtain ⟨e1, e2⟩ := tw_staleAt k hx hy
  obtain ⟨p, hp, y1, y2, y3⟩ := tw_pieces k hx hy
  have k1 := (k.drA x y).fpB x y
  have e6 := tw_draw6 k hx hy
  have e6' := tw_draw6 (k.fpB x y) hx hy
  refine ⟨?_, ?_⟩
  · show r_X11_staleAt A x y w h o c L = _
    unfold r_X12_paints
    rw [e1]
    rcases e2 with e2 | e2 <;> rw [e2] <;> decide
  · rw [tm_renewI]
    have eP : ∃ was, I_X12_paints B x y w h = (tq_u (tq_it (f_mpa1 x y (343 + 10 * (10 * y + x)) p was) p 0 (tq_u (tq_u (I_X12_findsPieces B x y w h) 118 (343 + 10 * (10 * y + x)) (nI p)) 118 ((343 + 10 * (10 * y + x)) + 1) (r_X12_pathTileOf (tq_u (I_X12_findsPieces B x y w h) 118 (343 + 10 * (10 * y + x)) (nI p)) (nI x) (nI y) w h))) 118 ((243 + (10 * y)) + x) (nI 0)) := by
      unfold I_X12_paints
      rw [tr_stl, y2, tq_N_nI (by omega)]
      split
      · exact ⟨_, rfl⟩
      · exact ⟨_, rfl⟩
    obtain ⟨was, eP⟩ := eP
    rw [eP, y1, tq_N_nI (by omega)]
    have kT : r_X12_pathTileOf (tq_u (I_X12_findsPieces B x y w h) 118 (343 + 10 * (10 * y + x)) (nI p)) (nI x) (nI y) w h = I_X7_draw A x y 102 6 := by
      rw [e6']
      exact tw_tileC (k.fpB x y).twh (fun j hj => tq_u_slot (by omega)) (fun j => ⟨tq_u_cell (by decide), tq_u_cell (by decide)⟩) _ _
    rw [kT, show 10 * y + x = y * 10 + x by omega, show 243 + 10 * y + x = 243 + (y * 10 + x) by omega]
    have hcl : y * 10 + x < 100 := by omega
    have hin : tw_in w h (y * 10 + x) := by unfold tw_in; omega
    generalize y * 10 + x = cl at *
    generalize I_X7_draw A x y = a at *
    generalize I_X12_findsPieces B x y w h = b at *
    have q118 : ∀ j, tq_u (tq_it (f_mpa1 x y (343 + 10 * cl) p was) p 0 (tq_u (tq_u b 118 (343 + 10 * cl) (nI p)) 118 (343 + 10 * cl + 1) (a 102 6))) 118 (243 + cl) (nI 0) 118 j = if j = 243 + cl then nI 0 else if 343 + 10 * cl + 2 ≤ j ∧ j < 343 + 10 * cl + 2 + p then b 127 (j - (343 + 10 * cl + 2)) else if j = 343 + 10 * cl + 1 then a 102 6 else if j = 343 + 10 * cl then nI p else b 118 j := by
      intro j
      by_cases c1 : j = 243 + cl
      · rw [if_pos c1, c1, tq_u_same]
      · rw [if_neg c1, tq_u_slot c1, tw_mpa]
        by_cases c2 : 343 + 10 * cl + 2 ≤ j ∧ j < 343 + 10 * cl + 2 + p
        · rw [if_pos c2, if_pos c2, tq_u_cell (by decide), tq_u_cell (by decide)]
        · rw [if_neg c2, if_neg c2]
          by_cases c3 : j = 343 + 10 * cl + 1
          · rw [if_pos c3, c3, tq_u_same]
          · rw [if_neg c3, tq_u_slot c3]
            by_cases c4 : j = 343 + 10 * cl
            · rw [if_pos c4, c4, tq_u_same]
            · rw [if_neg c4, tq_u_slot c4]
    have qo : ∀ cz, cz ≠ 118 → ∀ j, tq_u (tq_it (f_mpa1 x y (343 + 10 * cl) p was) p 0 (tq_u (tq_u b 118 (343 + 10 * cl) (nI p)) 118 (343 + 10 * cl + 1) (a 102 6))) 118 (243 + cl) (nI 0) cz j = b cz j := fun cz hz j => by
      rw [tq_u_cell hz, fr_mpa1 _ _ _ _ _ hz, tq_u_cell hz, tq_u_cell hz]
    generalize tq_u (tq_it (f_mpa1 x y (343 + 10 * cl) p was) p 0 (tq_u (tq_u b 118 (343 + 10 * cl) (nI p)) 118 (343 + 10 * cl + 1) (a 102 6))) 118 (243 + cl) (nI 0) = b' at q118 qo ⊢
    have qs : ∀ j, j < 243 ∨ 1343 ≤ j → b' 118 j = b 118 j := fun j hj => by rw [q118, if_neg (by omega), if_neg (by omega), if_neg (by omega), if_neg (by omega)]
    have pA : ∀ cz, cz ≠ 13 → cz ≠ 14 → cz ≠ 15 → cz ≠ 16 → ∀ j, tq_u (I_X1_take a cl p) 16 cl (nI 0) cz j = a cz j := fun cz h1 h2 h3 h4 j => by
      rw [tq_u_cell h4, fr_X1_take _ _ _ ⟨h1, h2, h3⟩]
    have p13 : ∀ j, tq_u (I_X1_take a cl p) 16 cl (nI 0) 13 j = if j = cl then nI p else a 13 j := fun j => by rw [tq_u_cell (by decide), tm_take13, y1]
    have p14 : ∀ j, tq_u (I_X1_take a cl p) 16 cl (nI 0) 14 j = if cl * 7 ≤ j ∧ j < cl * 7 + p then a 106 (j - cl * 7) else a 14 j := fun j => by rw [tq_u_cell (by decide), tm_take14]
    have p15 : ∀ j, tq_u (I_X1_take a cl p) 16 cl (nI 0) 15 j = if j = cl then a 102 6 else a 15 j := fun j => by rw [tq_u_cell (by decide), tm_take15]
    have p16 : ∀ j, tq_u (I_X1_take a cl p) 16 cl (nI 0) 16 j = if j = cl then nI 0 else a 16 j := fun j => by
      by_cases c1 : j = cl
      · rw [if_pos c1, c1, tq_u_same]
      · rw [if_neg c1, tq_u_slot c1, fr_X1_take _ _ _ (by decide)]
    generalize tq_u (I_X1_take a cl p) 16 cl (nI 0) = a' at pA p13 p14 p15 p16 ⊢
    refine k1.now (fun cz hz j => pA cz (by omega) (by omega) (by omega) (by omega) j) qo (fun j hj => qs j (by omega)) ?_
    obtain ⟨a1, a2, a3, a4, a5, a6, a7⟩ := k1.1
    refine ⟨a1.cong (fun j _ => pA _ (by decide) (by decide) (by decide) (by decide) j) (fun j hj => qs j (by omega)), a2.cong hw.2.1 hw.2.2.2 (fun j _ => pA _ (by decide) (by decide) (by decide) (by decide) j) (fun j h1 h2 => qs j (by omega)), a3.cong (fun j _ => pA _ (by decide) (by decide) (by decide) (by decide) j) (fun j h1 h2 => qs j (by omega)), a4.cong (fun j _ => ⟨pA _ (by decide) (by decide) (by decide) (by decide) j, pA _ (by decide) (by decide) (by decide) (by decide) j⟩) (fun j h1 h2 => qs j (by omega)), a5.cong ⟨pA _ (by decide) (by decide) (by decide) (by decide) _, pA _ (by decide) (by decide) (by decide) (by decide) _⟩ (fun j _ => ⟨pA _ (by decide) (by decide) (by decide) (by decide) j, pA _ (by decide) (by decide) (by decide) (by decide) j⟩) (fun j _ => pA _ (by decide) (by decide) (by decide) (by decide) j) (fun j h1 => qs j (by omega)), fun j hj => ?_, fun j hj => ?_⟩
    · show a' 16 j = b' 118 (243 + j) ∧ (b' 118 (243 + j) = 0 ∨ b' 118 (243 + j) = 1) ∧ (¬ tw_in w h j → b' 118 (243 + j) = 0)
      rw [p16, q118]
      by_cases c1 : j = cl
      · rw [if_pos c1, if_pos (by omega)]; exact ⟨rfl, Or.inl rfl, fun _ => rfl⟩
      · rw [if_neg c1, if_neg (by omega), if_neg (by omega), if_neg (by omega), if_neg (by omega)]
        exact a6 j hj
    · show a' 13 j = b' 118 (343 + 10 * j) ∧ (0 ≤ (a' 13 j).toInt ∧ (a' 13 j).toInt ≤ 7) ∧ a' 15 j = b' 118 (343 + 10 * j + 1) ∧ (¬ tw_in w h j → a' 13 j = 0) ∧ ∀ k, k < tq_N (a' 13 j) → (0 ≤ (a' 14 (j * 7 + k)).toInt ∧ (a' 14 (j * 7 + k)).toInt ≤ 383) ∧ b' 118 (343 + 10 * j + 2 + k) = nI (tw_rc (tq_N (a' 14 (j * 7 + k))))
      by_cases c1 : j = cl
      · subst c1
        rw [p13, p15, if_pos rfl, if_pos rfl, q118, if_neg (by omega), if_neg (by omega), if_neg (by omega), if_pos rfl, q118, if_neg (by omega), if_neg (by omega), if_pos rfl]
        refine ⟨rfl, by rw [nI_toInt (by omega)]; omega, rfl, fun z => absurd hin z, fun q hq => ?_⟩
        rw [tq_N_nI (by omega)] at hq
        rw [p14, if_pos (by omega), q118, if_neg (by omega), if_pos (by omega), show j * 7 + q - j * 7 = q by omega, show 343 + 10 * j + 2 + q - (343 + 10 * j + 2) = q by omega]
        exact y3 q hq
      · obtain ⟨b1, b2, b3, b4, b5⟩ := k1.V hj
        rw [p13, p15, if_neg c1, if_neg c1, q118, if_neg (by omega), if_neg (by omega), if_neg (by omega), if_neg (by omega), q118, if_neg (by omega), if_neg (by omega), if_neg (by omega), if_neg (by omega)]
        refine ⟨b1, b2, b3, b4, fun q hq => ?_⟩
        have h7 : q < 7 := by unfold tq_N at hq; omega
        rw [p14, if_neg (by omega), q118, if_neg (by omega), if_neg (by omega), if_neg (by omega), if_neg (by omega)]
        exact b5 q hq
theorem tw_paint (k : tw_inv A B w h o c L) : r_X11_paint A w h o c L = r_X12_paint B c w h ∧ ∃ o' c', tw_inv (I_X11_paint A w h o c L) (I_X12_paint B c w h) w h o' c' L := by
  have hw := k.w1
  have s := k.sav
  have key := tw_nest (F := fun q => f_pa1 q w h (tq_o1 o c) (tq_c1n c) L) (F2 := f_pa2 w h (tq_o1 o c) (tq_c1n c) L) (G := f_mpt1 w h) (fun _ (a : Int32 × tq_I) (b : Int32 × tq_I) => a.1 = b.1 ∧ tw_inv a.2 b.2 w h (tq_o1 o c) (tq_c1n c) L) (W := 10) (H := 10) (w := w) (h := h) hw.2.1 hw.2.2.2 (fun q a => rfl) (fun x y a b hx hy hab => by
      obtain ⟨e, q⟩ := hab
      obtain ⟨e1, e2⟩ := tw_pnt q hx hy
      have ex := (q.X (j := y * 10 + x) (by omega)).1
      unfold f_pa1 f_mpt1
      rw [ex, show (y * 10 + x) % 10 = x by omega, show (y * 10 + x) / 10 = y by omega]
      by_cases hc : b.2 118 (243 + (y * 10 + x)) = nI 1
      · rw [if_pos hc, if_pos hc]
        dsimp only
        exact ⟨by rw [e, e1], e2⟩
      · rw [if_neg hc, if_neg hc]
        exact ⟨by show a.1 = b.1 + nI 0; rw [tw_z0]; exact e, q⟩) (fun x y a b hx hy hn hab => by
      have e0 := (hab.2.X (j := y * 10 + x) (by omega)).2.2 (by unfold tw_in; omega)
      unfold f_mpt1
      rw [e0, if_neg (by decide)]
      exact ⟨by show a.1 = b.1 + nI 0; rw [tw_z0]; exact hab.1, hab.2⟩) (a := (nI 0, tq_rec A o c)) (b := (nI 0, tr_sav B c)) ⟨rfl, s⟩
  unfold r_X11_paint r_X12_paint I_X11_paint I_X12_paint
  exact ⟨key.1, _, _, key.2⟩
theorem tw_paintCell (k : tw_inv A B w h o c L) (x y : Int32) : r_X11_paintCell A x y w h o c L = r_X12_paintCell B x y c w h ∧ ∃ o' c', tw_inv (I_X11_paintCell A x y w h o c L) (I_X12_paintCell B x y c w h) w h o' c' L := by
  unfold r_X11_paintCell r_X12_paintCell I_X11_paintCell I_X12_paintCell
  rw [k.cellE]
  split
  · exact ⟨rfl, o, c, k⟩
  · rename_i hc
    obtain ⟨h1, h2, -, -⟩ := k.ok.cell (tq_b10 hc)
    obtain ⟨e1, e2⟩ := tw_pnt k.sav h1 h2
    exact ⟨e1, _, _, e2⟩
end TWA
