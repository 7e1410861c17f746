/-! paths -/
section TWP
variable {A B A' B' : tq_I} {w h o c L : Nat}
theorem tw_inv.lead (k : tw_inv A B w h o c L) (x y : Int32) : r_X3_leadsTo A x y (A 5 5) = r_X12_pathOf B x y w h ∧ (r_X12_pathOf B x y w h = 0 ∨ r_X12_pathOf B x y w h = 1) := by
  unfold r_X3_leadsTo r_X12_pathOf
  rw [k.cellE]
  split
  · rw [← k.U2.2.1]; exact ⟨rfl, k.U2.2.2⟩
  · rename_i hc
    obtain ⟨h1, h2, h3, h4⟩ := k.ok.cell (tq_b10 hc)
    obtain ⟨p1, p2, -⟩ := k.Pa (j := tq_N y * 10 + tq_N x) (by omega)
    have e : B 118 (143 + 10 * tq_N y + tq_N x) = B 118 (143 + (tq_N y * 10 + tq_N x)) := tw_ix (f := B 118) (by omega)
    rw [e, p1]
    refine ⟨?_, p2⟩
    rcases p2 with p2 | p2 <;> rw [p2] <;> decide
theorem tw_inv.pathE (k : tw_inv A B w h o c L) {x y : Nat} (hx : x < w) (hy : y < h) : r_X12_pathOf B (nI x) (nI y) w h = A 4 (y * 10 + x) ∧ (A 4 (y * 10 + x) = 0 ∨ A 4 (y * 10 + x) = 1) := by
  have hw := k.w1
  have hc : tr_cell B (nI x) (nI y) := k.twh.cell.mpr (by rw [nI_toInt (by omega), nI_toInt (by omega)]; omega)
  obtain ⟨p1, p2, -⟩ := k.Pa (j := y * 10 + x) (by omega)
  unfold r_X12_pathOf
  rw [if_neg (fun q => tq_b0.mp q hc), tq_N_nI (by omega), tq_N_nI (by omega), p1]
  exact ⟨tw_ix (f := B 118) (by omega), p2⟩
theorem tw_hasPath (k : tw_inv A B w h o c L) (x y : Int32) : r_X11_hasPath A x y w h o c L = r_X12_hasPath B x y w h c := by
  unfold r_X11_hasPath r_X12_hasPath
  rw [k.cellE]
  split
  · rfl
  · rename_i hc
    obtain ⟨h1, h2, -, -⟩ := k.ok.cell (tq_b10 hc)
    have := (k.pathE h1 h2).1
    rw [← tq_nIN (tq_b10 hc).1, ← tq_nIN (tq_b10 hc).2.2.1] at this
    exact this.symm
theorem tw_size (k : tw_inv A B w h o c L) (q : Int32) : r_X11_size A q w h o c L = r_X12_size B q w h c := by
  have hw := k.w1
  unfold r_X11_size r_X12_size
  rw [k.D.1, k.D.2, k.twh.1, k.twh.2.1]
  have e : r_X3_countPaths A w h = tq_it (f_sz1 B q) 100 0 (nI 0) := by
    have := tw_nest (F := fun y => f_countPaths1 A w h y) (F2 := f_countPaths2 A w h) (G := f_sz1 B q) (fun _ (a b : Int32) => a = b) (W := 10) (H := 10) (w := w) (h := h) hw.2.1 hw.2.2.2 (fun y a => rfl) (fun x y a b hx hy hab => by
        unfold f_countPaths1 f_sz1
        rw [hab, (k.Pa (j := y * 10 + x) (by omega)).1]) (fun x y a b hx hy hn hab => by
        unfold f_sz1
        rw [(k.Pa (j := y * 10 + x) (by omega)).2.2 (by unfold tw_in; omega), hab]
        exact (Int32.add_zero b).symm) (a := nI 0) (b := nI 0) rfl
    exact this
  rw [e]
  rfl
/-- what is near: eight bits -/
theorem tw_near1 : ∀ v, v < 256 → ∀ i, i < 8 → (nI v ||| ((nI 1) <<< ((nI i) &&& 31))) = nI (tq_N (nI v ||| ((nI 1) <<< ((nI i) &&& 31)))) ∧ tq_N (nI v ||| ((nI 1) <<< ((nI i) &&& 31))) < 256 := by decide +kernel
theorem tw_shz : ∀ i, i < 8 → (0 : Int32) <<< ((nI i) &&& 31) = 0 := by decide +kernel
theorem tw_or0 (a : Int32) : a ||| 0 = a := b_ext (fun i _ => by rw [b_or, b_0, Bool.or_false])
theorem tw_inv.near (k : tw_inv A B w h o c L) (x y : Nat) : ∃ n, n < 256 ∧ tq_it (f_pm1 A x y (A 5 5)) 8 0 (nI 0) = nI n ∧ tq_it (f_mk1 B (nI x) (nI y) w h) 8 0 (nI 0) = nI n := by
  have e : tq_it (f_pm1 A x y (A 5 5)) 8 0 (nI 0) = tq_it (f_mk1 B (nI x) (nI y) w h) 8 0 (nI 0) := by
    refine tq_itC 8 (fun i a hi => ?_) 8 0 _ (by decide)
    obtain ⟨m1, m2⟩ := k.mi.2.2.2.2.2 i hi
    unfold f_pm1 f_mk1
    rw [m1, m2]
    obtain ⟨l1, l2⟩ := k.lead (nI x + tq_aside.getD i 0) (nI y + tq_down.getD i 0)
    rw [l1]
    rcases l2 with l2 | l2
    · rw [if_pos l2, l2, tw_shz i hi, tw_or0]
    · rw [if_neg (by rw [l2]; decide), l2]
      rfl
  have g : ∃ n, n < 256 ∧ tq_it (f_pm1 A x y (A 5 5)) 8 0 (nI 0) = nI n := by
    refine tw_it0 (f := f_pm1 A x y (A 5 5)) (fun _ (a : Int32) => ∃ n, n < 256 ∧ a = nI n) 8 (nI 0) ⟨0, by decide, rfl⟩ ?_
    rintro i a hi ⟨n, hn, rfl⟩
    unfold f_pm1
    split
    · exact ⟨n, hn, rfl⟩
    · exact ⟨_, (tw_near1 n hn i hi).2, (tw_near1 n hn i hi).1⟩
  obtain ⟨n, hn, q⟩ := g
  exact ⟨n, hn, q, e ▸ q⟩
theorem tw_mask0 : ∀ n, n < 256 → tq_it (f_pm2 (fun _ _ => 0) 0 0 0 (nI n)) 4 0 (nI n &&& nI 85) = tq_it (f_mk2 (fun _ _ => 0) 0 0 0 0) 4 0 (nI n) ∧ tq_it (f_mk2 (fun _ _ => 0) 0 0 0 0) 4 0 (nI n) = nI (tq_N (tq_it (f_mk2 (fun _ _ => 0) 0 0 0 0) 4 0 (nI n))) ∧ tq_N (tq_it (f_mk2 (fun _ _ => 0) 0 0 0 0) 4 0 (nI n)) < 256 := by decide +kernel
theorem tw_inv.mask (k : tw_inv A B w h o c L) {x y : Nat} (hx : x < w) (hy : y < h) : ∃ m, m < 256 ∧ r_X3_pathMaskAt A x y (A 5 5) = nI m ∧ r_X12_maskOf B (nI x) (nI y) w h = if A 4 (y * 10 + x) = 0 then -1 else nI m := by
  obtain ⟨n, hn, e1, e2⟩ := k.near x y
  obtain ⟨m1, m2, m3⟩ := tw_mask0 n hn
  refine ⟨_, m3, ?_, ?_⟩
  · unfold r_X3_pathMaskAt
    rw [e1, ← m2]
    exact m1
  · unfold r_X12_maskOf
    rw [(k.pathE hx hy).1, e2, ← m2]
    rfl
theorem tw_pt0 : tq_it (f_pt1 (fun _ _ => 0) 0 0 0 (nI 0)) 47 0 (nI 0) = nI 0 := by decide +kernel
theorem tw_pt1 : ∀ m, m < 256 → tq_it (f_pt1 (fun _ _ => 0) 0 0 0 (nI (m + 1))) 47 0 (nI 0) = if r_X12_isPathMask (fun _ _ => 0) (nI m) = 0 then tq_it (f_pt1 (fun _ _ => 0) 0 0 0 (nI m)) 47 0 (nI 0) + nI 0 else tq_it (f_pt1 (fun _ _ => 0) 0 0 0 (nI m)) 47 0 (nI 0) + nI 1 := by decide +kernel
theorem tw_ptl {B : tq_I} {x y mm : Int32} {q : Nat} (m : Nat) (hm : m < 256) : tq_it (f_ptl1 B x y mm q) m 0 (nI 0) = tq_it (f_pt1 (fun _ _ => 0) 0 0 0 (nI m)) 47 0 (nI 0) := by
  refine tw_it0 (f := f_ptl1 B x y mm q) (fun m (a : Int32) => a = tq_it (f_pt1 (fun _ _ => 0) 0 0 0 (nI m)) 47 0 (nI 0)) m (nI 0) tw_pt0.symm ?_
  rintro j a hj rfl
  show (if r_X12_isPathMask B (nI j) = 0 then _ else _) = _
  rw [tw_pt1 j (by omega)]
  rfl
theorem tw_inv.tile (k : tw_inv A B w h o c L) {x y : Nat} (hx : x < w) (hy : y < h) : r_X3_pathTileAt A x y (A 5 5) = r_X12_pathTileOf B (nI x) (nI y) w h := by
  obtain ⟨m, hm, e1, e2⟩ := k.mask hx hy
  unfold r_X3_pathTileAt r_X12_pathTileOf
  rw [e1, e2]
  by_cases h0 : A 4 (y * 10 + x) = 0
  · rw [if_pos h0, if_pos h0, if_pos rfl]
  · rw [if_neg h0, if_neg h0, if_neg (tq_nneg1 (by rw [nI_toInt (by omega)]; omega)), tq_N_nI (by omega), tw_ptl m hm]
    rfl
theorem tw_pathMask (k : tw_inv A B w h o c L) (x y : Int32) : r_X11_pathMask A x y w h o c L = r_X12_pathMask B x y w h c := by
  unfold r_X11_pathMask r_X12_pathMask
  rw [k.cellE]
  split
  · rfl
  · rename_i hc
    obtain ⟨h1, h2, -, -⟩ := k.ok.cell (tq_b10 hc)
    obtain ⟨m, hm, e1, e2⟩ := k.mask h1 h2
    rw [← tq_nIN (tq_b10 hc).1, ← tq_nIN (tq_b10 hc).2.2.1] at e2
    rw [e1, e2]
    rcases (k.pathE h1 h2).2 with p | p <;> rw [p]
    · rw [if_pos rfl, if_neg (by decide)]
    · rw [if_pos (by decide), if_neg (by decide)]
theorem tw_pathTile (k : tw_inv A B w h o c L) (x y : Int32) : r_X11_pathTile A x y w h o c L = r_X12_pathTile B x y w h c := by
  unfold r_X11_pathTile r_X12_pathTile
  rw [k.cellE]
  split
  · rfl
  · rename_i hc
    obtain ⟨h1, h2, -, -⟩ := k.ok.cell (tq_b10 hc)
    have e := k.tile h1 h2
    rw [← tq_nIN (tq_b10 hc).1, ← tq_nIN (tq_b10 hc).2.2.1] at e
    exact e
/-! setPath -/
theorem tw_m1d {a d : Nat} (h : a + d < 2 ^ 31) : (nI a - nI 1 + nI d).toInt = ((a + d : Nat) : Int) - 1 := by
  have e : nI a - nI 1 + nI d = nI (a + d) - nI 1 := by
    rw [← nI_add, Int32.sub_eq_add_neg, Int32.sub_eq_add_neg, Int32.add_assoc, Int32.add_assoc, Int32.add_comm (-nI 1)]
  rw [e]
  exact tq_m1 h
theorem tw_sp9 (k : tr_wh B w h) {x y : Nat} {b hd : Int32} (hx : x ≤ 10) (hy : y ≤ 10) : (∀ j, j < 243 ∨ 343 ≤ j → tq_it (f_sp1 (nI x) (nI y) b hd w h) 9 0 B 118 j = B 118 j) ∧ ∀ j, j < 100 → tq_it (f_sp1 (nI x) (nI y) b hd w h) 9 0 B 118 (243 + j) = if x ≤ j % 10 + 1 ∧ j % 10 + 1 ≤ x + 2 ∧ y ≤ j / 10 + 1 ∧ j / 10 + 1 ≤ y + 2 ∧ tw_in w h j then nI 1 else B 118 (243 + j) := by
  have hk := k.2.2
  have key := tw_it0 (f := f_sp1 (nI x) (nI y) b hd w h) (fun n (a : tq_I) => tr_wh a w h ∧ (∀ j, j < 243 ∨ 343 ≤ j → a 118 j = B 118 j) ∧ ∀ j, j < 100 → a 118 (243 + j) = if (x ≤ j % 10 + 1 ∧ j % 10 + 1 ≤ x + 2 ∧ y ≤ j / 10 + 1 ∧ j / 10 + 1 ≤ y + 2 ∧ tw_in w h j) ∧ (j % 10 + 1 - x) + 3 * (j / 10 + 1 - y) < n then nI 1 else B 118 (243 + j)) 9 B ⟨k, fun _ _ => rfl, fun j hj => by rw [if_neg (by omega)]⟩ (fun n a hn hP => by
    obtain ⟨a1, a2, a3⟩ := hP
    refine ⟨a1.touches, fun j hj => (fs_touches a1 hj).trans (a2 j hj), fun j hj => ?_⟩
    show I_X12_touches a ((nI x - nI 1) + tq_rem (nI n) (nI 3)) ((nI y - nI 1) + (nI n) / (nI 3)) w h 118 (243 + j) = _
    rw [tq_rem_nI (by omega) (by omega), tq_div_nI (by omega) (by omega), tw_tch a1, tw_m1d (by omega), tw_m1d (by omega), a3 j hj]
    unfold tw_in
    by_cases c1 : (x ≤ j % 10 + 1 ∧ j % 10 + 1 ≤ x + 2 ∧ y ≤ j / 10 + 1 ∧ j / 10 + 1 ≤ y + 2 ∧ j % 10 < w ∧ j / 10 < h) ∧ (j % 10 + 1 - x) + 3 * (j / 10 + 1 - y) = n
    · rw [if_pos (by omega), if_pos (by omega)]
    · rw [if_neg (by omega)]
      exact tw_if (by omega))
  refine ⟨key.2.1, fun j hj => ?_⟩
  rw [key.2.2 j hj]
  exact tw_if (by omega)
theorem tw_chp (k : tw_inv A B w h o c L) {x y : Nat} (hx : x < w) (hy : y < h) {v b hd : Int32} (hv : v = 0 ∨ v = 1) (hne : ¬ A 4 (y * 10 + x) = v) : tw_inv (I_X8_changePath A x y v) (tq_it (f_sp1 (nI x) (nI y) b hd w h) 9 0 (tq_u B 118 (143 + 10 * y + x) v)) w h o c L := by
  have hw := k.w1
  have hA : ∀ cz, cz ≠ 4 ∧ cz ≠ 16 → ∀ j, I_X8_changePath A x y v cz j = A cz j := fun cz hz j => fr_X8_changePath A x y v hz j
  have kk : tr_wh (tq_u B 118 (143 + 10 * y + x) v) w h := k.twh.cong (tq_u_slot (by omega)) (tq_u_slot (by omega))
  obtain ⟨s1, s2⟩ := tw_sp9 kk (x := x) (y := y) (b := b) (hd := hd) (by omega) (by omega)
  generalize hB2 : tq_it (f_sp1 (nI x) (nI y) b hd w h) 9 0 (tq_u B 118 (143 + 10 * y + x) v) = B2 at *
  have hB : ∀ cz, cz ≠ 118 → ∀ j, B2 cz j = B cz j := fun cz hz j => by rw [← hB2, fr_sp1 _ _ _ _ _ _ hz, tq_u_cell hz]
  have hQ : ∀ j, j < 143 ∨ 343 ≤ j → B2 118 j = B 118 j := fun j hj => by rw [s1 j (by omega), tq_u_slot (by omega)]
  have hA4 : ∀ j, I_X8_changePath A x y v 4 j = if j = y * 10 + x then v else A 4 j := fun j => by
    unfold I_X8_changePath
    rw [if_neg hne, fr_X8_touchBlock _ _ _ _ _ (by decide)]
    by_cases e : j = y * 10 + x
    · rw [e, tq_u_same, if_pos rfl]
    · rw [tq_u_slot e, if_neg e]
  have hA16 : ∀ j, I_X8_changePath A x y v 16 j = if x ≤ j % 10 + 1 ∧ j % 10 + 1 ≤ x + 2 ∧ y ≤ j / 10 + 1 ∧ j / 10 + 1 ≤ y + 2 ∧ tw_in w h j then nI 1 else A 16 j := fun j => by
    unfold I_X8_changePath
    rw [if_neg hne, tw_tb ((tq_u_cell (by decide)).trans k.D.1) ((tq_u_cell (by decide)).trans k.D.2) hw.2.1 hw.2.2.2 (by omega) (by omega) (by omega) (by omega), tq_u_cell (by decide)]
  refine k.now (fun cz hz j => hA cz (by omega) j) hB (fun j hj => hQ j (by omega)) ?_
  obtain ⟨a1, a2, a3, a4, a5, a6, a7⟩ := k.1
  refine ⟨a1.cong (fun j _ => hA _ (by decide) j) (fun j hj => hQ j (by omega)), a2.cong hw.2.1 hw.2.2.2 (fun j _ => hA _ (by decide) j) (fun j h1 h2 => hQ j (by omega)), fun j hj => ?_, a4.cong (fun j _ => ⟨hA _ (by decide) j, hA _ (by decide) j⟩) (fun j h1 h2 => hQ j (by omega)), a5.cong ⟨hA _ (by decide) _, hA _ (by decide) _⟩ (fun j _ => ⟨hA _ (by decide) j, hA _ (by decide) j⟩) (fun j _ => hA _ (by decide) j) (fun j h1 => hQ j (by omega)), fun j hj => ?_, a7.cong (fun j _ => ⟨hA _ (by decide) j, hA _ (by decide) j⟩) (fun j _ => hA _ (by decide) j) (fun j h1 h2 => hQ j (by omega))⟩
  · show I_X8_changePath A x y v 4 j = B2 118 (143 + j) ∧ (B2 118 (143 + j) = 0 ∨ B2 118 (143 + j) = 1) ∧ (¬ tw_in w h j → B2 118 (143 + j) = 0)
    rw [hA4, s1 _ (by omega)]
    obtain ⟨b1, b2, b3⟩ := k.Pa hj
    by_cases e : j = y * 10 + x
    · rw [if_pos e, show 143 + j = 143 + 10 * y + x by omega, tq_u_same]
      exact ⟨rfl, hv, fun hn => absurd (show tw_in w h j by unfold tw_in; omega) hn⟩
    · rw [if_neg e, tq_u_slot (by omega)]
      exact ⟨b1, b2, b3⟩
  · show I_X8_changePath A x y v 16 j = B2 118 (243 + j) ∧ (B2 118 (243 + j) = 0 ∨ B2 118 (243 + j) = 1) ∧ (¬ tw_in w h j → B2 118 (243 + j) = 0)
    obtain ⟨b1, b2, b3⟩ := k.X hj
    rw [hA16, s2 j hj, b1, tq_u_slot (by omega)]
    refine ⟨rfl, ?_, fun hn => ?_⟩
    · split
      · exact Or.inr rfl
      · exact b2
    · rw [if_neg (fun q => hn q.2.2.2.2)]
      exact b3 hn
theorem tw_setPath (k : tw_inv A B w h o c L) (x y b : Int32) (hb : b = 0 ∨ b = 1) : r_X11_setPath A x y b w h o c L = r_X12_setPath B x y b w h c ∧ ∃ o' c', tw_inv (I_X11_setPath A x y b w h o c L) (I_X12_setPath B x y b w h c) w h o' c' L := by
  unfold r_X11_setPath r_X12_setPath I_X11_setPath I_X12_setPath
  rw [k.cellE]
  split
  · exact ⟨rfl, o, c, k⟩
  · rename_i hc
    obtain ⟨h1, h2, -, -⟩ := k.ok.cell (tq_b10 hc)
    have ex := tq_nIN (tq_b10 hc).1
    have ey := tq_nIN (tq_b10 hc).2.2.1
    generalize tq_N x = X at *
    generalize tq_N y = Y at *
    subst ex
    subst ey
    have s := k.sav
    obtain ⟨p1, p2⟩ := s.pathE h1 h2
    rw [p1]
    have z0 : nI 0 = 0 := by decide
    have z1 : nI 1 = 1 := by decide
    have n1 : ¬ (1 : Int32) = 0 := by decide
    have n2 : ¬ (0 : Int32) = 1 := by decide
    have q0 : (0 : Int32) = 0 := rfl
    have q1 : (1 : Int32) = 1 := rfl
    have ch := fun v (hv : v = 0 ∨ v = 1) hne => tw_chp s h1 h2 (v := v) (b := b) (hd := tq_rec A o c 4 (Y * 10 + X)) hv hne
    have same : ∀ v, tq_rec A o c 4 (Y * 10 + X) = v → I_X8_changePath (tq_rec A o c) X Y v = tq_rec A o c := fun v hv => by unfold I_X8_changePath; rw [if_pos hv]
    rcases hb with rfl | rfl <;> rcases p2 with p2 | p2 <;> rw [p2] at ch ⊢ <;> simp only [z0, z1, if_pos q0, if_pos q1, if_neg n1, if_neg n2, if_true, ite_self, true_and]
    · rw [same 0 p2]; exact ⟨_, _, s⟩
    · exact ⟨_, _, ch 0 (Or.inl rfl) n1⟩
    · exact ⟨_, _, ch 1 (Or.inr rfl) n2⟩
    · rw [same 1 p2]; exact ⟨_, _, s⟩
end TWP
