/-! settings, further; raise; paths -/
section TWS2
variable {A B A' B' : tq_I} {w h o c L : Nat}
/-- rules changed, nothing else -/
theorem tw_inv.rules (k : tw_inv A B w h o c L) (hA : ∀ cz, cz ≠ 5 → cz ≠ 8 → cz ≠ 10 → cz ≠ 11 → ∀ j, A' cz j = A cz j) (hB : ∀ cz, cz ≠ 118 → ∀ j, B' cz j = B cz j) (hQ : ∀ j, j < 2 ∨ (4 ≤ j ∧ j < 10) ∨ 22 ≤ j → B' 118 j = B 118 j) (hU : tw_U (tw_now A') (tw_row0 B')) : tw_inv A' B' w h o c L := by
  have hw := k.w1
  refine k.now (fun cz hz j => hA cz (by omega) (by omega) (by omega) (by omega) j) hB (fun j hj => hQ j (by omega)) ?_
  obtain ⟨a1, a2, a3, a4, a5, a6, a7⟩ := k.1
  exact ⟨a1.cong (fun j _ => hA _ (by decide) (by decide) (by decide) (by decide) j) (fun j hj => hQ j (by omega)), a2.cong hw.2.1 hw.2.2.2 (fun j _ => hA _ (by decide) (by decide) (by decide) (by decide) j) (fun j h1 h2 => hQ j (by omega)), a3.cong (fun j _ => hA _ (by decide) (by decide) (by decide) (by decide) j) (fun j h1 h2 => hQ j (by omega)), a4.cong (fun j _ => ⟨hA _ (by decide) (by decide) (by decide) (by decide) j, hA _ (by decide) (by decide) (by decide) (by decide) j⟩) (fun j h1 h2 => hQ j (by omega)), hU, a6.cong (fun j _ => hA _ (by decide) (by decide) (by decide) (by decide) j) (fun j h1 h2 => hQ j (by omega)), a7.cong (fun j _ => ⟨hA _ (by decide) (by decide) (by decide) (by decide) j, hA _ (by decide) (by decide) (by decide) (by decide) j⟩) (fun j _ => hA _ (by decide) (by decide) (by decide) (by decide) j) (fun j h1 h2 => hQ j (by omega))⟩
theorem tw_big {n : Nat} {i : Nat} (h : n < 2 ^ 16) (hi : 16 ≤ i) : bt (nI n) i = false := by
  unfold bt
  show (BitVec.ofNat 32 n).getLsbD i = false
  rw [BitVec.getLsbD_ofNat, Nat.testBit_lt_two_pow (Nat.lt_of_lt_of_le h (Nat.pow_le_pow_right (by decide) hi))]
  simp
theorem tw_m2 : ∀ i, i < 16 → bt (-2) i = bt (nI 65534) i := by decide +kernel
theorem tw_set {s : Int32} (h0 : 0 ≤ s.toInt) (h1 : s.toInt ≤ 65535) : (s &&& (nI 65534)) ||| (nI 32768) = (s &&& (-2)) ||| (nI 32768) := by
  have e := tq_nIN h0
  have hl : tq_N s < 2 ^ 16 := by unfold tq_N; omega
  generalize tq_N s = n at e hl
  subst e
  refine b_ext (fun i hi => ?_)
  rw [b_or, b_or, b_and, b_and]
  rcases Nat.lt_or_ge i 16 with h | h
  · rw [tw_m2 i h]
  · rw [tw_big hl h]; simp
theorem tw_setTiles (k : tw_inv A B w h o c L) (t s : Int32) : r_X11_setTiles A t s w h o c L = r_X12_setTiles B t s w h c ∧ ∃ o' c', tw_inv (I_X11_setTiles A t s w h o c L) (I_X12_setTiles B t s w h c) w h o' c' L := by
  unfold r_X11_setTiles r_X12_setTiles I_X11_setTiles I_X12_setTiles
  split
  · exact ⟨rfl, o, c, k⟩
  · rename_i ht
    have ht' := (tq_t05 (tq_b10 ht)).2.2
    split
    · exact ⟨rfl, o, c, k⟩
    · rename_i hs
      have hs' := tq_b10 hs
      rw [show (nI 0).toInt = 0 by decide, show (nI 65535).toInt = 65535 by decide +kernel] at hs'
      rw [tw_set hs'.1 hs'.2]
      have q := k.sav
      generalize tq_N t = T at *
      generalize tq_rec A o c = A1 at *
      generalize hB1 : tr_sav B c = B1 at *
      have e10 : I_X10_choose A1 T s 10 T = (s &&& (-2)) ||| (nI 32768) := by
        unfold I_X10_choose
        rw [fr_ch2 _ _ _ (by decide), tq_u_same]
      have f10 : ∀ j, j ≠ T → I_X10_choose A1 T s 10 j = A1 10 j := fun j hj => by
        unfold I_X10_choose
        rw [fr_ch2 _ _ _ (by decide), tq_u_slot hj]
      have f11 : ∀ j, ¬ (T * 16 + 1 ≤ j ∧ j < T * 16 + 16) → I_X10_choose A1 T s 11 j = A1 11 j := fun j hj => by
        unfold I_X10_choose
        rw [tm_ch2, if_neg (by omega), tq_u_cell (by decide)]
      have m : tw_inv (I_X10_choose A1 T s) (tq_u B1 118 (10 + T) ((s &&& (-2)) ||| (nI 32768))) w h (tq_o1 o c) (tq_c1n c) L := by
        refine q.rules (fun cz h1 h2 h3 h4 j => fr_X10_choose _ _ _ ⟨h3, h4⟩ j) (fun cz hz j => tq_u_cell hz) (fun j hj => tq_u_slot (by omega)) ⟨fun t' ht2 => ?_, ?_⟩
        · show tm_tiles (I_X10_choose A1 T s 10 t') (fun m => I_X10_choose A1 T s 11 (t' * 16 + m)) ∧ I_X10_choose A1 T s 10 t' = tq_u B1 118 (10 + T) _ 118 (10 + t') ∧ I_X10_choose A1 T s 8 t' = tq_u B1 118 (10 + T) _ 118 (16 + t') ∧ 1 ≤ (I_X10_choose A1 T s 8 t').toInt ∧ (I_X10_choose A1 T s 8 t').toInt ≤ 8
          rw [fr_X10_choose _ _ _ (show 8 ≠ 10 ∧ 8 ≠ 11 by decide), tq_u_slot (show 16 + t' ≠ 10 + T by omega)]
          obtain ⟨u1, u2, u3⟩ := q.U ht2
          by_cases et : t' = T
          · subst et
            rw [e10, tq_u_same]
            exact ⟨tm_choose, rfl, u3⟩
          · rw [f10 t' et, tq_u_slot (by omega)]
            exact ⟨tm_tiles_cong u1 (fun m h1 h2 => f11 _ (by omega)), u2, u3⟩
        · show I_X10_choose A1 T s 5 4 = tq_u B1 118 (10 + T) _ 118 2 ∧ I_X10_choose A1 T s 5 5 = tq_u B1 118 (10 + T) _ 118 3 ∧ (I_X10_choose A1 T s 5 5 = 0 ∨ I_X10_choose A1 T s 5 5 = 1)
          rw [fr_X10_choose _ _ _ (by decide), fr_X10_choose _ _ _ (by decide), tq_u_slot (by omega), tq_u_slot (by omega)]
          exact q.U2
      unfold r_X12_becomes I_X12_becomes
      rw [hB1, ← (q.U (show T < 6 by omega)).2.1, e10]
      refine ⟨rfl, tq_o1 o c, tq_c1n c, ?_⟩
      split
      · exact m
      · have := tw_tif m (nI 1)
        rw [if_neg (by decide)] at this
        exact this
theorem tw_setVariants (k : tw_inv A B w h o c L) (t v : Int32) : r_X11_setVariants A t v w h o c L = r_X12_setVariants B t v w h c ∧ ∃ o' c', tw_inv (I_X11_setVariants A t v w h o c L) (I_X12_setVariants B t v w h c) w h o' c' L := by
  unfold r_X11_setVariants r_X12_setVariants I_X11_setVariants I_X12_setVariants
  split
  · exact ⟨rfl, o, c, k⟩
  · rename_i ht
    have ht' := (tq_t05 (tq_b10 ht)).2.2
    split
    · exact ⟨rfl, o, c, k⟩
    · rename_i hs
      have hs' := tq_b10 hs
      rw [show (nI 1).toInt = 1 by decide, show (nI 8).toInt = 8 by decide] at hs'
      have q := k.sav
      generalize tq_N t = T at *
      generalize tq_rec A o c = A1 at *
      generalize hB1 : tr_sav B c = B1 at *
      have m : tw_inv (tq_u A1 8 T v) (tq_u B1 118 (16 + T) v) w h (tq_o1 o c) (tq_c1n c) L := by
        refine q.rules (fun cz h1 h2 h3 h4 j => tq_u_cell h2) (fun cz hz j => tq_u_cell hz) (fun j hj => tq_u_slot (by omega)) ⟨fun t' ht2 => ?_, ?_⟩
        · show tm_tiles (tq_u A1 8 T v 10 t') (fun m => tq_u A1 8 T v 11 (t' * 16 + m)) ∧ tq_u A1 8 T v 10 t' = tq_u B1 118 (16 + T) v 118 (10 + t') ∧ tq_u A1 8 T v 8 t' = tq_u B1 118 (16 + T) v 118 (16 + t') ∧ 1 ≤ (tq_u A1 8 T v 8 t').toInt ∧ (tq_u A1 8 T v 8 t').toInt ≤ 8
          rw [tq_u_cell (show 10 ≠ 8 by decide), tq_u_slot (show 10 + t' ≠ 16 + T by omega)]
          obtain ⟨u1, u2, u3⟩ := q.U ht2
          refine ⟨tm_tiles_cong u1 (fun m h1 h2 => tq_u_cell (by decide)), u2, ?_⟩
          by_cases et : t' = T
          · subst et
            rw [tq_u_same, tq_u_same]
            exact ⟨rfl, hs'⟩
          · rw [tq_u_slot et, tq_u_slot (by omega)]
            exact u3
        · show tq_u A1 8 T v 5 4 = tq_u B1 118 (16 + T) _ 118 2 ∧ tq_u A1 8 T v 5 5 = tq_u B1 118 (16 + T) _ 118 3 ∧ (tq_u A1 8 T v 5 5 = 0 ∨ tq_u A1 8 T v 5 5 = 1)
          rw [tq_u_cell (show 5 ≠ 8 by decide), tq_u_cell (show 5 ≠ 8 by decide), tq_u_slot (show 2 ≠ 16 + T by omega), tq_u_slot (show 3 ≠ 16 + T by omega)]
          exact q.U2
      unfold r_X12_becomes I_X12_becomes
      rw [hB1, ← (q.U (show T < 6 by omega)).2.2.1]
      refine ⟨rfl, tq_o1 o c, tq_c1n c, ?_⟩
      split
      · exact m
      · have := tw_tif m (nI 1)
        rw [if_neg (by decide)] at this
        exact this
theorem tw_setSeed (k : tw_inv A B w h o c L) (s : Int32) : r_X11_setSeed A s w h o c L = r_X12_setSeed B s w h c ∧ ∃ o' c', tw_inv (I_X11_setSeed A s w h o c L) (I_X12_setSeed B s w h c) w h o' c' L := by
  unfold r_X11_setSeed r_X12_setSeed I_X11_setSeed I_X12_setSeed r_X12_becomes I_X12_becomes
  have q := k.sav
  generalize tq_rec A o c = A1 at *
  generalize tr_sav B c = B1 at *
  have m : tw_inv (tq_u A1 5 4 s) (tq_u B1 118 2 s) w h (tq_o1 o c) (tq_c1n c) L := by
    refine q.rules (fun cz h1 h2 h3 h4 j => tq_u_cell h1) (fun cz hz j => tq_u_cell hz) (fun j hj => tq_u_slot (by omega)) ⟨fun t' ht2 => ?_, ?_⟩
    · show tm_tiles (tq_u A1 5 4 s 10 t') (fun m => tq_u A1 5 4 s 11 (t' * 16 + m)) ∧ tq_u A1 5 4 s 10 t' = tq_u B1 118 2 s 118 (10 + t') ∧ tq_u A1 5 4 s 8 t' = tq_u B1 118 2 s 118 (16 + t') ∧ 1 ≤ (tq_u A1 5 4 s 8 t').toInt ∧ (tq_u A1 5 4 s 8 t').toInt ≤ 8
      rw [tq_u_cell (show 10 ≠ 5 by decide), tq_u_cell (show 8 ≠ 5 by decide), tq_u_slot (show 10 + t' ≠ 2 by omega), tq_u_slot (show 16 + t' ≠ 2 by omega)]
      obtain ⟨u1, u2⟩ := q.U ht2
      exact ⟨tm_tiles_cong u1 (fun m h1 h2 => tq_u_cell (by decide)), u2⟩
    · show tq_u A1 5 4 s 5 4 = tq_u B1 118 2 s 118 2 ∧ tq_u A1 5 4 s 5 5 = tq_u B1 118 2 s 118 3 ∧ (tq_u A1 5 4 s 5 5 = 0 ∨ tq_u A1 5 4 s 5 5 = 1)
      rw [tq_u_same, tq_u_same, tq_u_slot (by decide), tq_u_slot (by decide)]
      exact ⟨rfl, q.U2.2⟩
  have e := q.U2.1
  rw [← e]
  by_cases es : A1 5 4 = s
  · simp only [if_pos es]
    exact ⟨trivial, _, _, m⟩
  · simp only [if_neg es]
    refine ⟨trivial, tq_o1 o c, tq_c1n c, ?_⟩
    have := tw_tif m (nI 1)
    rw [if_neg (by decide)] at this
    exact this
theorem tw_setBorder (k : tw_inv A B w h o c L) (b : Int32) (hb : b = 0 ∨ b = 1) : r_X11_setBorder A b w h o c L = r_X12_setBorder B b w h c ∧ ∃ o' c', tw_inv (I_X11_setBorder A b w h o c L) (I_X12_setBorder B b w h c) w h o' c' L := by
  unfold r_X11_setBorder r_X12_setBorder I_X11_setBorder I_X12_setBorder r_X12_becomes I_X12_becomes
  have q := k.sav
  generalize tq_rec A o c = A1 at *
  generalize tr_sav B c = B1 at *
  have m : tw_inv (tq_u A1 5 5 b) (tq_u B1 118 3 b) w h (tq_o1 o c) (tq_c1n c) L := by
    refine q.rules (fun cz h1 h2 h3 h4 j => tq_u_cell h1) (fun cz hz j => tq_u_cell hz) (fun j hj => tq_u_slot (by omega)) ⟨fun t' ht2 => ?_, ?_⟩
    · show tm_tiles (tq_u A1 5 5 b 10 t') (fun m => tq_u A1 5 5 b 11 (t' * 16 + m)) ∧ tq_u A1 5 5 b 10 t' = tq_u B1 118 3 b 118 (10 + t') ∧ tq_u A1 5 5 b 8 t' = tq_u B1 118 3 b 118 (16 + t') ∧ 1 ≤ (tq_u A1 5 5 b 8 t').toInt ∧ (tq_u A1 5 5 b 8 t').toInt ≤ 8
      rw [tq_u_cell (show 10 ≠ 5 by decide), tq_u_cell (show 8 ≠ 5 by decide), tq_u_slot (show 10 + t' ≠ 3 by omega), tq_u_slot (show 16 + t' ≠ 3 by omega)]
      obtain ⟨u1, u2⟩ := q.U ht2
      exact ⟨tm_tiles_cong u1 (fun m h1 h2 => tq_u_cell (by decide)), u2⟩
    · show tq_u A1 5 5 b 5 4 = tq_u B1 118 3 b 118 2 ∧ tq_u A1 5 5 b 5 5 = tq_u B1 118 3 b 118 3 ∧ (tq_u A1 5 5 b 5 5 = 0 ∨ tq_u A1 5 5 b 5 5 = 1)
      rw [tq_u_same, tq_u_same, tq_u_slot (by decide), tq_u_slot (by decide)]
      exact ⟨q.U2.1, rfl, hb⟩
  obtain ⟨-, e, e01⟩ := q.U2
  rw [← e]
  have m1 := tw_tif m (nI 1)
  rw [if_neg (by decide)] at m1
  have z0 : nI 0 = 0 := by decide
  have z1 : nI 1 = 1 := by decide
  have n1 : ¬ (1 : Int32) = 0 := by decide
  have n2 : ¬ (0 : Int32) = 1 := by decide
  have p0 : (0 : Int32) = 0 := rfl
  have p1 : (1 : Int32) = 1 := rfl
  simp only [z1] at m1
  rcases hb with rfl | rfl <;> rcases e01 with e01 | e01 <;> rw [e01] <;> simp only [z0, z1, if_pos p0, if_pos p1, if_neg n1, if_neg n2, if_true, ite_self, true_and]
  · exact ⟨tq_o1 o c, tq_c1n c, m⟩
  · exact ⟨tq_o1 o c, tq_c1n c, m1⟩
  · exact ⟨tq_o1 o c, tq_c1n c, m1⟩
  · exact ⟨tq_o1 o c, tq_c1n c, m⟩
theorem tw_flip : ∀ m, m < 16 → ∀ i, i < 4 → r_X12_flipped (nI m) (nI i) = r_X10_flip (nI m) (nI i) := by decide +kernel
theorem tw_srC {f g : Nat → Option Int32} (N : Nat) (h : ∀ i, i < N → f i = g i) (d : Int32) : ∀ (n i : Nat), i + n ≤ N → tq_sr f n i d = tq_sr g n i d
  | 0, _, _ => rfl
  | n + 1, i, hi => by
    simp only [tq_sr, h i (by omega)]
    cases g i with
    | some v => rfl
    | none => exact tw_srC N h d n (i + 1) (by omega)
theorem tw_wayE {A B : tq_I} {t m : Nat} (e : A 10 t = B 118 (10 + t)) (hm : m < 16) : r_X10_wayOf A t m = r_X12_wayOf B t (nI m) := by
  unfold r_X10_wayOf r_X12_wayOf
  refine tw_srC 4 (fun i hi => ?_) _ 4 0 (by decide)
  unfold f_way1 f_mway1
  rw [tw_flip m hm i hi, ← e]
  by_cases hc : (((A 10 t) >>> ((r_X10_flip (nI m) (nI i)) &&& 31)) &&& (nI 1)) = (nI 1)
  · rw [if_pos hc, if_neg (fun q => tq_b0.mp q hc)]
  · rw [if_neg hc, if_pos (tq_b0.mpr hc)]
theorem tw_way (k : tw_inv A B w h o c L) (t q : Int32) : r_X11_way A t q w h o c L = r_X12_way B t q w h c := by
  unfold r_X11_way r_X12_way
  split
  · rfl
  · rename_i ht
    have ht' := (tq_t05 (tq_b10 ht)).2.2
    split
    · rfl
    · rename_i hq
      have hq' := tq_w15 (tq_b10 hq)
      rw [tw_wayE (k.U (show tq_N t < 6 by omega)).2.1 (by omega), ← tq_nIN hq'.1]
/-! raise -/
theorem tw_to : ∀ a, a < 6 → ∀ r, r < 6 → ∀ d, d < 11 → (if (nI r) - (nI d) ≤ nI a then (if nI a ≤ (nI r) + (nI d) then a else r + d) else r - d) = min (max a (r - d)) (r + d) := by decide +kernel
theorem tw_mra {x y t r w h i : Nat} {b : Int32 × tq_I} (hx : x ≤ 10) (hy : y ≤ 10) (hi : i < 121) (hr : r ≤ 5) (hc : tr_corner b.2 (nI (i % 11)) (nI (i / 11))) {a d : Nat} (ha : tr_rk b.2 (b.2 118 (22 + 11 * (i / 11) + i % 11)) = a) (hd : max ((i % 11 - x) + (x - i % 11)) ((i / 11 - y) + (y - i / 11)) = d) : f_mra1 x y t r w h i b = ((b.1 + (r_X12_lays b.2 (i % 11) (i / 11) (b.2 118 (4 + min (max a (r - d)) (r + d))) w h)), (I_X12_lays b.2 (i % 11) (i / 11) (b.2 118 (4 + min (max a (r - d)) (r + d))) w h)) := by
  have ha5 : a ≤ 5 := by rw [← ha]; exact tr_rk5 _ _
  have h0 : ¬ tq_b (tr_corner b.2 (nI (i % 11)) (nI (i / 11))) = 0 := fun q => tq_b0.mp q hc
  rw [← tw_to a (by omega) r (by omega) d (by omega)]
  unfold f_mra1
  rw [ha]
  simp only [if_neg h0]
  by_cases c1 : nI (((i % 11) - x) + (x - (i % 11))) ≤ nI (((i / 11) - y) + (y - (i / 11)))
  · rw [if_pos c1]
    rw [nI_leI (by omega) (by omega)] at c1
    have e : ((i / 11) - y) + (y - (i / 11)) = d := by omega
    rw [e]
    by_cases c2 : (nI r) - (nI d) ≤ nI a
    · simp only [if_pos c2]
      by_cases c3 : nI a ≤ (nI r) + (nI d)
      · simp only [if_pos c3]
      · simp only [if_neg c3]
    · simp only [if_neg c2]
  · rw [if_neg c1]
    rw [nI_leI (by omega) (by omega)] at c1
    have e : ((i % 11) - x) + (x - (i % 11)) = d := by omega
    rw [e]
    by_cases c2 : (nI r) - (nI d) ≤ nI a
    · simp only [if_pos c2]
      by_cases c3 : nI a ≤ (nI r) + (nI d)
      · simp only [if_pos c3]
      · simp only [if_neg c3]
    · simp only [if_neg c2]
theorem tw_mraO {x y t r w h i : Nat} {b : Int32 × tq_I} (hc : ¬ tr_corner b.2 (nI (i % 11)) (nI (i / 11))) : f_mra1 x y t r w h i b = b := by
  have h0 : tq_b (tr_corner b.2 (nI (i % 11)) (nI (i / 11))) = 0 := tq_b0.mpr hc
  unfold f_mra1
  simp only [if_pos h0, ite_self]
theorem tw_inv.cor (k : tw_inv A B w h o c L) {i : Nat} (hi : i < 121) : tr_corner B (nI (i % 11)) (nI (i / 11)) ↔ i % 11 ≤ w ∧ i / 11 ≤ h := by
  rw [k.twh.corner, nI_toInt (by omega), nI_toInt (by omega)]
  omega
theorem tw_raise (k : tw_inv A B w h o c L) (x y t : Int32) : r_X11_raise A x y t w h o c L = r_X12_raise B x y t w h c ∧ ∃ o' c', tw_inv (I_X11_raise A x y t w h o c L) (I_X12_raise B x y t w h c) w h o' c' L := by
  have hw := k.w1
  unfold r_X11_raise r_X12_raise I_X11_raise I_X12_raise
  rw [k.cornerE]
  split
  · exact ⟨rfl, o, c, k⟩
  · rename_i hc
    obtain ⟨h1, h2, h3, h4⟩ := k.ok.corner (tq_b10 hc)
    split
    · exact ⟨rfl, o, c, k⟩
    · rename_i ht
      have ht' := (tq_t05 (tq_b10 ht)).2.2
      have s := k.sav
      have epk := s.rk (t := tq_N t) (by omega)
      have hr5 := tr_rk5 (tr_sav B c) (nI (tq_N t))
      rw [epk]
      generalize tr_rk (tr_sav B c) (nI (tq_N t)) = r at *
      generalize tq_N x = X at *
      generalize tq_N y = Y at *
      have key := tw_nest (F := fun q => f_ra1 X Y (tq_N t) (nI r) q w h (tq_o1 o c) (tq_c1n c) L) (F2 := f_ra2 X Y (tq_N t) (nI r) w h (tq_o1 o c) (tq_c1n c) L) (G := f_mra1 X Y (tq_N t) r w h) (fun _ (a : Int32 × tq_I) (b : Int32 × tq_I) => a.1 = b.1 ∧ tw_inv a.2 b.2 w h (tq_o1 o c) (tq_c1n c) L) (W := 11) (H := 11) (w := w + 1) (h := h + 1) (by omega) (by omega) (fun q a => rfl) (fun i j a b hi hj hab => by
          obtain ⟨e, q⟩ := hab
          have e1 : (j * 11 + i) % 11 = i := by omega
          have e2 : (j * 11 + i) / 11 = j := by omega
          have e3 : b.2 118 (22 + 11 * j + i) = a.2 3 (j * 11 + i) := by rw [q.T (x := i) (y := j) (by omega) (by omega)]; exact tw_ix (f := b.2 118) (by omega)
          have hT := q.Tr (j := j * 11 + i) (by omega)
          rw [← q.T (x := i) (y := j) (by omega) (by omega)] at hT
          have e4 : tq_N (a.2 6 (tq_N (a.2 3 (j * 11 + i)))) = tr_rk b.2 (b.2 118 (22 + 11 * j + i)) := by
            rw [e3, q.rk (t := tq_N (a.2 3 (j * 11 + i))) (by unfold tq_N; omega), ← tq_nIN hT.1]
            exact tq_N_nI (by have := tr_rk5 b.2 (a.2 3 (j * 11 + i)); omega)
          have ha5 := tr_rk5 b.2 (b.2 118 (22 + 11 * j + i))
          rw [tw_mra (a := tr_rk b.2 (b.2 118 (22 + 11 * j + i))) (d := max ((i - X) + (X - i)) ((j - Y) + (Y - j))) h3 h4 (by omega) hr5 ((q.cor (by omega)).mpr (by omega)) (by rw [e1, e2]) (by rw [e1, e2])]
          rw [e1, e2]
          unfold f_ra1
          rw [e4, tq_N_nI (by omega)]
          have hto : min (max (tr_rk b.2 (b.2 118 (22 + 11 * j + i))) (r - max ((i - X) + (X - i)) ((j - Y) + (Y - j)))) (r + max ((i - X) + (X - i)) ((j - Y) + (Y - j))) < 6 := by omega
          obtain ⟨z1, z2⟩ := q.r7 hto
          rw [← z1]
          obtain ⟨r1, r2⟩ := tw_lay q (x := i) (y := j) (by omega) (by omega) z2
          exact ⟨by show a.1 + _ = b.1 + _; rw [e, r1], r2⟩) (fun i j a b hi hj hn hab => by
          rw [tw_mraO (fun q => hn (by have := (hab.2.cor (i := j * 11 + i) (by omega)).mp q; omega))]
          exact hab) (a := (nI 0, tq_rec A o c)) (b := (nI 0, tr_sav B c)) ⟨rfl, s⟩
      exact ⟨key.1, _, _, key.2⟩
end TWS2
