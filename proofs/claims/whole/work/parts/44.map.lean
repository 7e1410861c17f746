/-! the map: begin, corners, fill, raise; settings -/
theorem tw_fill0 {f : Nat → tq_I → tq_I} {cc b : Nat} {v : Int32} (hf : ∀ i a, f i a = tq_u a cc (b + i) v) (n : Nat) (I : tq_I) : (∀ cz, cz ≠ cc → ∀ j, tq_it f n 0 I cz j = I cz j) ∧ ∀ j, tq_it f n 0 I cc j = if b ≤ j ∧ j < b + n then v else I cc j := by
  refine tw_it0 (fun n (a : tq_I) => (∀ cz, cz ≠ cc → ∀ j, a cz j = I cz j) ∧ ∀ j, a cc j = if b ≤ j ∧ j < b + n then v else I cc j) n I ⟨fun _ _ _ => rfl, fun j => by rw [if_neg (by omega)]⟩ ?_
  rintro n a hn ⟨h1, h2⟩
  rw [hf]
  refine ⟨fun cz hz j => by rw [tq_u_cell hz]; exact h1 cz hz j, fun j => ?_⟩
  by_cases e : j = b + n
  · rw [e, tq_u_same, if_pos (by omega)]
  · rw [tq_u_slot e, h2]
    exact tw_if (by omega)
theorem tw_wipe (I : tq_I) : (∀ cz, cz ≠ 13 → cz ≠ 15 → cz ≠ 16 → ∀ j, I_X1_wipe I cz j = I cz j) ∧ ∀ j, j < 100 → I_X1_wipe I 13 j = nI 0 ∧ I_X1_wipe I 15 j = -1 ∧ I_X1_wipe I 16 j = nI 0 := by
  refine ⟨fun cz h1 h2 h3 j => fr_X1_wipe I ⟨h1, h2, h3⟩ j, ?_⟩
  have := tw_it0 (f := f_wipe1) (fun n (a : tq_I) => ∀ j, j < n → a 13 j = nI 0 ∧ a 15 j = -1 ∧ a 16 j = nI 0) 100 I (fun j hj => by omega) (fun n a hn ha j hj => by
    unfold f_wipe1
    by_cases e : j = n
    · subst e
      exact ⟨by rw [tq_u_cell (by decide), tq_u_cell (by decide), tq_u_same], by rw [tq_u_cell (by decide), tq_u_same], tq_u_same⟩
    · obtain ⟨b1, b2, b3⟩ := ha j (by omega)
      exact ⟨by rw [tq_u_cell (by decide), tq_u_cell (by decide), tq_u_slot e]; exact b1, by rw [tq_u_cell (by decide), tq_u_slot e, tq_u_cell (by decide)]; exact b2, by rw [tq_u_slot e, tq_u_cell (by decide), tq_u_cell (by decide)]; exact b3⟩)
  exact this
theorem tw_start {I : tq_I} {w h : Nat} {t : Int32} (hw : 1 ≤ w ∧ w ≤ 10) (hh : 1 ≤ h ∧ h ≤ 10) : (I_X8_startMap I w h t 2 0 = nI w ∧ I_X8_startMap I w h t 2 1 = nI h) ∧ (∀ j, j < 121 → I_X8_startMap I w h t 3 j = t) ∧ ∀ j, j < 100 → I_X8_startMap I w h t 4 j = nI 0 ∧ I_X8_startMap I w h t 13 j = nI 0 ∧ I_X8_startMap I w h t 15 j = -1 ∧ I_X8_startMap I w h t 16 j = if tw_in w h j then nI 1 else nI 0 := by
  generalize hI1 : tq_u (tq_u I 2 0 (nI w)) 2 1 (nI h) = I1
  have a0 : I1 2 0 = nI w ∧ I1 2 1 = nI h := by rw [← hI1]; exact ⟨by rw [tq_u_slot (by decide), tq_u_same], tq_u_same⟩
  obtain ⟨b1, b2⟩ := tw_fill0 (f := f_sm1 w h t) (cc := 3) (b := 0) (v := t) (fun i a => by unfold f_sm1; rw [Nat.zero_add]) 121 I1
  generalize hI2 : tq_it (f_sm1 w h t) 121 0 I1 = I2 at b1 b2
  obtain ⟨c1, c2⟩ := tw_fill0 (f := f_sm2 w h t) (cc := 4) (b := 0) (v := nI 0) (fun i a => by unfold f_sm2; rw [Nat.zero_add]) 100 I2
  generalize hI3 : tq_it (f_sm2 w h t) 100 0 I2 = I3 at c1 c2
  obtain ⟨d1, d2⟩ := tw_wipe I3
  generalize hI4 : I_X1_wipe I3 = I4 at d1 d2
  have e : I_X8_startMap I w h t = I_X8_touchAll I4 w h := by unfold I_X8_startMap; rw [hI1, hI2, hI3, hI4]
  rw [e]
  have w0 : I4 2 0 = nI w ∧ I4 2 1 = nI h := by
    rw [d1 2 (by decide) (by decide) (by decide), d1 2 (by decide) (by decide) (by decide), c1 2 (by decide), c1 2 (by decide), b1 2 (by decide), b1 2 (by decide)]
    exact a0
  refine ⟨?_, fun j hj => ?_, fun j hj => ⟨?_, ?_, ?_, ?_⟩⟩
  · rw [fr_X8_touchAll _ _ _ (by decide), fr_X8_touchAll _ _ _ (by decide)]; exact w0
  · rw [fr_X8_touchAll _ _ _ (by decide), d1 3 (by decide) (by decide) (by decide), c1 3 (by decide), b2, if_pos (by omega)]
  · rw [fr_X8_touchAll _ _ _ (by decide), d1 4 (by decide) (by decide) (by decide), c2, if_pos (by omega)]
  · rw [fr_X8_touchAll _ _ _ (by decide)]; exact (d2 j hj).1
  · rw [fr_X8_touchAll _ _ _ (by decide)]; exact (d2 j hj).2.1
  · unfold I_X8_touchAll
    rw [tw_tb w0.1 w0.2 hw.2 hh.2 (by decide) (by decide) (by omega) (by omega), (d2 j hj).2.2]
    refine tw_if ?_
    unfold tw_in
    omega
theorem tw_bg2 {w h : Nat} (I : tq_I) : ∀ j, tq_it (f_bg2 w h) 100 0 I 118 j = if ∃ i, i < 100 ∧ j = 343 + 10 * i + 1 then -1 else I 118 j := by
  refine (tw_it0 (f := f_bg2 w h) (fun n (a : tq_I) => ∀ j, a 118 j = if ∃ i, i < n ∧ j = 343 + 10 * i + 1 then -1 else I 118 j) 100 I (fun j => by rw [if_neg]; rintro ⟨i, hi, _⟩; omega) (fun n a hn ha j => ?_))
  unfold f_bg2
  by_cases e : j = 343 + 10 * n + 1
  · rw [e, tq_u_same, if_pos ⟨n, by omega, rfl⟩]
  · rw [tq_u_slot e, ha]
    refine tw_if ⟨fun ⟨i, h1, h2⟩ => ⟨i, by omega, h2⟩, fun ⟨i, h1, h2⟩ => ⟨i, by omega, h2⟩⟩
theorem tw_begins {B : tq_I} {w h : Nat} (hw : 1 ≤ w ∧ w ≤ 10) (hh : 1 ≤ h ∧ h ≤ 10) : (I_X12_begins B w h 118 0 = nI w ∧ I_X12_begins B w h 118 1 = nI h) ∧ (∀ j, (2 ≤ j ∧ j < 22) ∨ 1343 ≤ j → I_X12_begins B w h 118 j = B 118 j) ∧ (∀ j, 22 ≤ j → j < 243 → I_X12_begins B w h 118 j = nI 0) ∧ ∀ j, j < 100 → I_X12_begins B w h 118 (243 + j) = (if tw_in w h j then nI 1 else nI 0) ∧ I_X12_begins B w h 118 (343 + 10 * j) = nI 0 ∧ I_X12_begins B w h 118 (343 + 10 * j + 1) = -1 := by
  generalize hI1 : tq_u (tq_u B 118 0 (nI w)) 118 1 (nI h) = I1
  have a0 : I1 118 0 = nI w ∧ I1 118 1 = nI h ∧ ∀ j, 2 ≤ j → I1 118 j = B 118 j := by
    rw [← hI1]; exact ⟨by rw [tq_u_slot (by decide), tq_u_same], tq_u_same, fun j hj => by rw [tq_u_slot (by omega), tq_u_slot (by omega)]⟩
  obtain ⟨b1, b2⟩ := tw_fill0 (f := f_bg1 w h) (cc := 118) (b := 22) (v := nI 0) (fun i a => rfl) 1321 I1
  generalize hI2 : tq_it (f_bg1 w h) 1321 0 I1 = I2 at b1 b2
  have c2 := tw_bg2 (w := w) (h := h) I2
  generalize hI3 : tq_it (f_bg2 w h) 100 0 I2 = I3 at c2
  have e : I_X12_begins B w h = I_X12_touchesAll I3 w h := by unfold I_X12_begins; rw [hI1, hI2, hI3]
  rw [e]
  have n1 : ∀ j, (∀ i, i < 100 → j ≠ 343 + 10 * i + 1) → I3 118 j = I2 118 j := fun j hj => by rw [c2, if_neg]; rintro ⟨i, h1, h2⟩; exact hj i h1 h2
  have z0 : I3 118 0 = nI w := by rw [n1 0 (fun i _ => by omega), b2, if_neg (by omega)]; exact a0.1
  have z1 : I3 118 1 = nI h := by rw [n1 1 (fun i _ => by omega), b2, if_neg (by omega)]; exact a0.2.1
  have kk : tr_wh I3 w h := ⟨z0, z1, hw.1, hw.2, hh.1, hh.2⟩
  refine ⟨⟨?_, ?_⟩, fun j hj => ?_, fun j h1 h2 => ?_, fun j hj => ⟨?_, ?_, ?_⟩⟩
  · rw [fs_touchesAll kk (by decide)]; exact z0
  · rw [fs_touchesAll kk (by decide)]; exact z1
  · rw [fs_touchesAll kk (by omega), n1 j (fun i _ => by omega), b2, if_neg (by omega)]; exact a0.2.2 j (by omega)
  · rw [fs_touchesAll kk (by omega), n1 j (fun i _ => by omega), b2, if_pos (by omega)]
  · have e0 : I3 118 (243 + j) = nI 0 := by rw [n1 _ (fun i _ => by omega), b2, if_pos (by omega)]
    rw [tw_ta kk j hj, e0]
  · rw [fs_touchesAll kk (by omega), n1 _ (fun i _ => by omega), b2, if_pos (by omega)]
  · rw [fs_touchesAll kk (by omega), c2, if_pos ⟨j, hj, rfl⟩]
section TWM
variable {A B A' B' : tq_I} {w h o c L : Nat}
/-- a new map -/
theorem tw_inv.map {W H : Nat} (k : tw_inv A B w h o c L) (hA : ∀ cz, cz ≠ 2 → cz ≠ 3 → cz ≠ 4 → cz ≠ 13 → cz ≠ 15 → cz ≠ 16 → ∀ j, A' cz j = A cz j) (hB : ∀ cz, cz ≠ 118 → ∀ j, B' cz j = B cz j) (hQ : ∀ j, (2 ≤ j ∧ j < 22) ∨ 1343 ≤ j → B' 118 j = B 118 j)
    (hD : (A' 2 0 = nI W ∧ A' 2 1 = nI H) ∧ B' 118 0 = nI W ∧ B' 118 1 = nI H) (hw : 1 ≤ W ∧ W ≤ 10) (hh : 1 ≤ H ∧ H ≤ 10) (hT : tw_T (tw_now A') (tw_row0 B') W H)
    (hV : ∀ j, j < 100 → A' 4 j = nI 0 ∧ A' 13 j = nI 0 ∧ A' 15 j = -1 ∧ A' 16 j = (if tw_in W H j then nI 1 else nI 0) ∧ B' 118 (143 + j) = nI 0 ∧ B' 118 (243 + j) = (if tw_in W H j then nI 1 else nI 0) ∧ B' 118 (343 + 10 * j) = nI 0 ∧ B' 118 (343 + 10 * j + 1) = -1) : tw_inv A' B' W H o c L := by
  refine k.now (fun cz hz j => hA cz (by omega) (by omega) (by omega) (by omega) (by omega) (by omega) j) hB (fun j hj => hQ j (by omega)) ?_
  obtain ⟨a1, a2, a3, a4, a5, a6, a7⟩ := k.1
  refine ⟨⟨hD.1.1, hD.1.2, hD.2.1, hD.2.2, hw.1, hw.2, hh.1, hh.2⟩, hT, fun j hj => ?_, a4.cong (fun j _ => ⟨hA _ (by decide) (by decide) (by decide) (by decide) (by decide) (by decide) j, hA _ (by decide) (by decide) (by decide) (by decide) (by decide) (by decide) j⟩) (fun j h1 h2 => hQ j (by omega)), ⟨fun t ht => ?_, ?_⟩, fun j hj => ?_, fun j hj => ?_⟩
  · obtain ⟨b1, b2, b3, b4, b5, b6, b7, b8⟩ := hV j hj
    exact ⟨b1.trans b5.symm, Or.inl b5, fun _ => b5⟩
  · have := a5.1 t ht
    show tm_tiles (A' 10 t) (fun m => A' 11 (t * 16 + m)) ∧ A' 10 t = B' 118 (10 + t) ∧ A' 8 t = B' 118 (16 + t) ∧ 1 ≤ (A' 8 t).toInt ∧ (A' 8 t).toInt ≤ 8
    rw [hA 10 (by decide) (by decide) (by decide) (by decide) (by decide) (by decide), hA 8 (by decide) (by decide) (by decide) (by decide) (by decide) (by decide), hQ _ (by omega), hQ _ (by omega)]
    exact ⟨tm_tiles_cong this.1 (fun m _ _ => hA 11 (by decide) (by decide) (by decide) (by decide) (by decide) (by decide) _), this.2⟩
  · show A' 5 4 = B' 118 2 ∧ A' 5 5 = B' 118 3 ∧ (A' 5 5 = 0 ∨ A' 5 5 = 1)
    rw [hA 5 (by decide) (by decide) (by decide) (by decide) (by decide) (by decide), hA 5 (by decide) (by decide) (by decide) (by decide) (by decide) (by decide), hQ _ (by omega), hQ _ (by omega)]
    exact a5.2
  · obtain ⟨b1, b2, b3, b4, b5, b6, b7, b8⟩ := hV j hj
    show A' 16 j = B' 118 (243 + j) ∧ (B' 118 (243 + j) = 0 ∨ B' 118 (243 + j) = 1) ∧ (¬ tw_in W H j → B' 118 (243 + j) = 0)
    rw [b4, b6]
    refine ⟨rfl, ?_, fun hn => by rw [if_neg hn]; rfl⟩
    split
    · exact Or.inr rfl
    · exact Or.inl rfl
  · obtain ⟨b1, b2, b3, b4, b5, b6, b7, b8⟩ := hV j hj
    show A' 13 j = B' 118 (343 + 10 * j) ∧ (0 ≤ (A' 13 j).toInt ∧ (A' 13 j).toInt ≤ 7) ∧ A' 15 j = B' 118 (343 + 10 * j + 1) ∧ (¬ tw_in W H j → A' 13 j = 0) ∧ _
    rw [b2, b3, b7, b8]
    refine ⟨rfl, by decide, rfl, fun _ => rfl, fun q hq => ?_⟩
    have hq' : q < tq_N (A' 13 j) := hq
    rw [b2] at hq'
    exact absurd hq' (by rw [tq_N_nI (by decide)]; omega)
theorem tw_begin (k : tw_inv A B w h o c L) (W H t : Int32) : r_X11_begin A W H t w h o c L = r_X12_begin B W H t w h c ∧ ∃ w' h' o' c', tw_inv (I_X11_begin A W H t w h o c L) (I_X12_begin B W H t w h c) w' h' o' c' L := by
  unfold r_X11_begin r_X12_begin I_X11_begin I_X12_begin
  refine ⟨rfl, ?_⟩
  split
  · exact ⟨w, h, o, c, k⟩
  · rename_i ht
    have ht' := tq_t05 (tq_b10 ht)
    split
    · exact ⟨w, h, o, c, k⟩
    · rename_i hW
      have hW' := (tq_w10 (tq_b10 hW)).2
      split
      · exact ⟨w, h, o, c, k⟩
      · rename_i hH
        have hH' := (tq_w10 (tq_b10 hH)).2
        refine ⟨tq_N W, tq_N H, tq_o1 o c, tq_c1n c, ?_⟩
        have s := k.sav
        obtain ⟨p1, p2, p3⟩ := tw_start (I := tq_rec A o c) (t := t) hW' hH'
        obtain ⟨q1, q2, q3, q4⟩ := tw_begins (B := tr_sav B c) hW' hH'
        obtain ⟨r1, r2⟩ := tw_fill0 (f := f_bgn1 (tq_N W) (tq_N H) t) (cc := 118) (b := 22) (v := t) (fun i a => rfl) 121 (I_X12_begins (tr_sav B c) (tq_N W) (tq_N H))
        have r3 : ∀ j, j < 22 ∨ 143 ≤ j → tq_it (f_bgn1 (tq_N W) (tq_N H) t) 121 0 (I_X12_begins (tr_sav B c) (tq_N W) (tq_N H)) 118 j = I_X12_begins (tr_sav B c) (tq_N W) (tq_N H) 118 j := fun j hj => by rw [r2, if_neg (by omega)]
        refine s.map (fun cz h1 h2 h3 h4 h5 h6 j => fr_X8_startMap _ _ _ _ ⟨h1, h2, h3, h4, h5, h6⟩ j) (fun cz hz j => by rw [r1 cz hz, fr_X12_begins _ _ _ hz]) (fun j hj => by rw [r3 j (by omega)]; exact q2 j hj) ⟨p1, by rw [r3 0 (by omega)]; exact q1.1, by rw [r3 1 (by omega)]; exact q1.2⟩ hW' hH' ⟨fun x y hx hy => ?_, fun j hj => ?_⟩ (fun j hj => ?_)
        · show I_X8_startMap (tq_rec A o c) (tq_N W) (tq_N H) t 3 (y * 11 + x) = tq_it (f_bgn1 (tq_N W) (tq_N H) t) 121 0 (I_X12_begins (tr_sav B c) (tq_N W) (tq_N H)) 118 (22 + (y * 11 + x))
          rw [p2 _ (by omega), r2, if_pos (by omega)]
        · show 0 ≤ (tq_it (f_bgn1 (tq_N W) (tq_N H) t) 121 0 (I_X12_begins (tr_sav B c) (tq_N W) (tq_N H)) 118 (22 + j)).toInt ∧ (tq_it (f_bgn1 (tq_N W) (tq_N H) t) 121 0 (I_X12_begins (tr_sav B c) (tq_N W) (tq_N H)) 118 (22 + j)).toInt ≤ 5
          rw [r2, if_pos (by omega)]
          exact ⟨ht'.1, ht'.2.1⟩
        · obtain ⟨u1, u2, u3, u4⟩ := p3 j hj
          obtain ⟨v1, v2, v3⟩ := q4 j hj
          exact ⟨u1, u2, u3, u4, by rw [r3 _ (by omega)]; exact q3 _ (by omega) (by omega), by rw [r3 _ (by omega)]; exact v1, by rw [r3 _ (by omega)]; exact v2, by rw [r3 _ (by omega)]; exact v3⟩
theorem tw_corner (k : tw_inv A B w h o c L) (x y : Int32) : r_X11_corner A x y w h o c L = r_X12_corner B x y w h c := by
  unfold r_X11_corner r_X12_corner
  rw [k.cornerE]
  split
  · rfl
  · rename_i hc
    obtain ⟨h1, h2, -, -⟩ := k.ok.corner (tq_b10 hc)
    rw [k.T h1 h2]
    exact tw_ix (f := B 118) (by omega)
theorem tw_setCorner (k : tw_inv A B w h o c L) (x y t : Int32) : r_X11_setCorner A x y t w h o c L = r_X12_setCorner B x y t w h c ∧ ∃ o' c', tw_inv (I_X11_setCorner A x y t w h o c L) (I_X12_setCorner B x y t w h c) w h o' c' L := by
  unfold r_X11_setCorner r_X12_setCorner I_X11_setCorner I_X12_setCorner
  rw [k.cornerE]
  split
  · exact ⟨rfl, o, c, k⟩
  · rename_i hc
    obtain ⟨h1, h2, -, -⟩ := k.ok.corner (tq_b10 hc)
    split
    · exact ⟨rfl, o, c, k⟩
    · rename_i ht
      have ht' := tq_t05 (tq_b10 ht)
      have s := k.sav
      refine ⟨?_, _, _, (tw_lay s h1 h2 ⟨ht'.1, ht'.2.1⟩).2⟩
      rw [s.T h1 h2]
      exact tw_ix (f := tr_sav B c 118) (by omega)
theorem tw_bn {a b c : Nat} (ha : a < 2 ^ 31) (hb : b < 2 ^ 31) (hc : c < 2 ^ 31) : (tq_b ((nI a).toInt ≤ (nI b).toInt ∧ (nI b).toInt ≤ (nI c).toInt) = 0) = ¬ (a ≤ b ∧ b ≤ c) := by
  rw [tq_b0, nI_toInt ha, nI_toInt hb, nI_toInt hc]
  exact propext (by omega)
theorem tw_fi1 {x y u v w h i : Nat} {t : Int32} (hx : x ≤ 10) (hy : y ≤ 10) (hu : u ≤ 10) (hv : v ≤ 10) (hi : i < 121) (b : Int32 × tq_I) : f_fi1 x y u v t w h i b = if min x u ≤ i % 11 ∧ i % 11 ≤ max x u ∧ min y v ≤ i / 11 ∧ i / 11 ≤ max y v then ((b.1 + (r_X12_lays b.2 (i % 11) (i / 11) t w h)), (I_X12_lays b.2 (i % 11) (i / 11) t w h)) else ((b.1 + (nI 0)), b.2) := by
  unfold f_fi1
  simp (disch := omega) only [tw_bn, nI_leI, eq_iff_iff]
  by_cases hC : min x u ≤ i % 11 ∧ i % 11 ≤ max x u ∧ min y v ≤ i / 11 ∧ i / 11 ≤ max y v
  · rw [if_pos hC]
    repeat' split
    all_goals first | rfl | (exfalso; omega)
  · rw [if_neg hC]
    repeat' split
    all_goals first | rfl | (exfalso; omega)
theorem tw_z0 (a : Int32) : a + nI 0 = a := by rw [show nI 0 = 0 from by decide]; exact Int32.add_zero a
theorem tw_fill (k : tw_inv A B w h o c L) (x y u v t : Int32) : r_X11_fill A x y u v t w h o c L = r_X12_fill B x y u v t w h c ∧ ∃ o' c', tw_inv (I_X11_fill A x y u v t w h o c L) (I_X12_fill B x y u v t w h c) w h o' c' L := by
  unfold r_X11_fill r_X12_fill I_X11_fill I_X12_fill
  rw [k.cornerE, k.cornerE]
  split
  · exact ⟨rfl, o, c, k⟩
  · rename_i hc
    obtain ⟨h1, h2, h3, h4⟩ := k.ok.corner (tq_b10 hc)
    split
    · exact ⟨rfl, o, c, k⟩
    · rename_i hc2
      obtain ⟨g1, g2, g3, g4⟩ := k.ok.corner (tq_b10 hc2)
      split
      · exact ⟨rfl, o, c, k⟩
      · rename_i ht
        have ht' := tq_t05 (tq_b10 ht)
        have s := k.sav
        generalize tq_N x = X at *
        generalize tq_N y = Y at *
        generalize tq_N u = U at *
        generalize tq_N v = V at *
        have key := tw_nestO (F := fun q => f_cb1 (min X U) (min Y V) (max X U) (max Y V) t (min Y V + q)) (F2 := f_cb2 (min X U) (min Y V) (max X U) (max Y V) t) (G := f_fi1 X Y U V t w h) (fun _ (a : Int32 × tq_I) (b : Int32 × tq_I) => a.1 = b.1 ∧ tw_inv a.2 b.2 w h (tq_o1 o c) (tq_c1n c) L) (W := 11) (H := 11) (w := max X U + 1 - min X U) (h := max Y V + 1 - min Y V) (l := min X U) (t := min Y V) (by omega) (by omega) (fun q a => rfl) (fun q r a b hq hr hab => by
            obtain ⟨e, q'⟩ := hab
            obtain ⟨r1, r2⟩ := tw_lay q' (x := min X U + q) (y := min Y V + r) (t := t) (by omega) (by omega) ⟨ht'.1, ht'.2.1⟩
            rw [tw_fi1 h3 h4 g3 g4 (by omega), if_pos (by omega), show ((min Y V + r) * 11 + (min X U + q)) % 11 = min X U + q by omega, show ((min Y V + r) * 11 + (min X U + q)) / 11 = min Y V + r by omega]
            exact ⟨by show a.1 + _ = b.1 + _; rw [e, r1], r2⟩) (fun q r a b hq hr hn hab => by
            rw [tw_fi1 h3 h4 g3 g4 (by omega), if_neg (by omega)]
            exact ⟨by show a.1 = b.1 + nI 0; rw [tw_z0]; exact hab.1, hab.2⟩) (a := (nI 0, tq_rec A o c)) (b := (nI 0, tr_sav B c)) ⟨rfl, s⟩
        exact ⟨key.1, _, _, key.2⟩
end TWM
