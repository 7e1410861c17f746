/-! the texts: type, clearText, write, written -/
section TWW
variable {A B A' B' : tq_I} {w h o c L : Nat}
theorem tw_inv.mk1 {L' : Nat} (k : tw_inv A B w h o c L) (hA : ∀ cz, cz < 99 → ∀ j, A' cz j = A cz j) (hB : ∀ j, B' 118 j = B 118 j) (hB1 : B' 117 1 = B 117 1) (ht : tw_txt A' B' L') (ho : tw_out A' B') (hm : tw_mis A' B') : tw_inv A' B' w h o c L' := by
  obtain ⟨a1, a2, a3, a4, a5, a6⟩ := k
  refine ⟨a1.cong (fun q j hq => hA _ (by unfold tw_rg at hq; omega) j) (fun j _ => hB j), fun i hi => ?_, ?_, ht, ho, hm⟩
  · obtain ⟨w', h', q⟩ := a2 i hi
    exact ⟨w', h', q.cong (fun q j hq => hA _ (by unfold tw_rg at hq; omega) j) (fun j _ => hB _)⟩
  · obtain ⟨b1, b2, b3, b4, b5, b6⟩ := a3
    exact ⟨by rw [hA _ (by omega)]; exact b1, by rw [hA _ (by omega)]; exact b2, by rw [hB1]; exact b3, b4, b5, fun q hq => by rw [hA _ (by omega)]; exact b6 q hq⟩
/-- only the text typed changed -/
theorem tw_inv.tex {L' : Nat} (k : tw_inv A B w h o c L) (hA : ∀ cz, cz ≠ 111 → cz ≠ 112 → ∀ j, A' cz j = A cz j) (hB : ∀ cz, cz ≠ 117 → cz ≠ 119 → ∀ j, B' cz j = B cz j) (hB1 : ∀ j, j ≠ 3 → B' 117 j = B 117 j) (ht : tw_txt A' B' L') : tw_inv A' B' w h o c L' := by
  refine k.mk1 (fun cz hz j => hA cz (by omega) (by omega) j) (fun j => hB _ (by decide) (by decide) j) (hB1 _ (by decide)) ht ?_ (k.mi.cong (fun cz hz j => hA cz (by omega) (by omega) j) ⟨hB1 _ (by decide), hB1 _ (by decide)⟩ (fun cz hz j => hB cz (by omega) (by omega) j))
  obtain ⟨m, b1, b2, b3, b4⟩ := k.ou
  exact ⟨m, b1, by rw [hA _ (by decide) (by decide)]; exact b2, by rw [hB1 _ (by decide)]; exact b3, fun j hj => by rw [hA _ (by decide) (by decide), hB _ (by decide) (by decide)]; exact b4 j hj⟩
/-- only the text written changed -/
theorem tw_inv.oup (k : tw_inv A B w h o c L) (hA : ∀ cz, cz ≠ 113 → cz ≠ 114 → ∀ j, A' cz j = A cz j) (hB : ∀ cz, cz ≠ 117 → cz ≠ 120 → ∀ j, B' cz j = B cz j) (hB1 : ∀ j, j ≠ 5 → B' 117 j = B 117 j) (ht : tw_out A' B') : tw_inv A' B' w h o c L := by
  refine k.mk1 (fun cz hz j => hA cz (by omega) (by omega) j) (fun j => hB _ (by decide) (by decide) j) (hB1 _ (by decide)) ?_ ht (k.mi.cong (fun cz hz j => hA cz (by omega) (by omega) j) ⟨hB1 _ (by decide), hB1 _ (by decide)⟩ (fun cz hz j => hB cz (by omega) (by omega) j))
  obtain ⟨b1, b2, b3, b4⟩ := k.tx
  exact ⟨by rw [hA _ (by decide) (by decide)]; exact b1, by rw [hB1 _ (by decide)]; exact b2, b3, fun j hj => by rw [hA _ (by decide) (by decide), hB _ (by decide) (by decide)]; exact b4 j hj⟩
theorem tw_type (k : tw_inv A B w h o c L) (v : Int32) : r_X11_type A v w h o c L = r_X12_type B v L ∧ ∃ L', tw_inv (I_X11_type A v w h o c L) (I_X12_type B v L) w h o c L' := by
  obtain ⟨t1, t2, t3, t4⟩ := k.tx
  unfold r_X11_type r_X12_type I_X11_type I_X12_type
  by_cases hc : (nI 0).toInt ≤ v.toInt ∧ v.toInt ≤ (nI 255).toInt
  · have hb : ¬ tq_b ((nI 0).toInt ≤ v.toInt ∧ v.toInt ≤ (nI 255).toInt) = 0 := fun z => tq_b0.mp z hc
    rw [if_neg hb, if_neg hb, if_neg hb, if_neg hb, t1, t2]
    rw [show (nI 0).toInt = 0 by decide, show (nI 255).toInt = 255 by decide] at hc
    by_cases h5 : L = 150
    · have e1 : ¬ nI L < nI 150 := by rw [h5]; exact Int32.lt_irrefl
      have e2 : nI L = nI 150 := by rw [h5]
      rw [if_neg e1, if_neg e1, if_pos e2, if_pos e2]
      exact ⟨rfl, L, k⟩
    · have e1 : nI L < nI 150 := by rw [Int32.lt_iff_toInt_lt, nI_toInt (by omega), nI_toInt (by omega)]; omega
      have e2 : ¬ nI L = nI 150 := fun z => h5 (tr_inj (by omega) (by omega) z)
      have e3 : ¬ nI 150 ≤ A 111 1 := by rw [t1, nI_leI (by omega) (by omega)]; omega
      have eA : I_append111 A v = tq_u (tq_u A 112 L v) 111 1 (nI (L + 1)) := by
        unfold I_append111
        rw [if_neg e3, t1, tq_N_nI (by omega), tq_u_cell (by decide), t1, nI_add]
      have eB : tq_u (tq_u B 119 L v) 117 3 (tq_u B 119 L v 117 3 + nI 1) = tq_u (tq_u B 119 L v) 117 3 (nI (L + 1)) := by
        rw [tq_u_cell (by decide), t2, nI_add]
      rw [if_pos e1, if_pos e1, if_neg e2, if_neg e2, eA, eB]
      refine ⟨by rw [tq_u_same, tq_u_same], L + 1, k.tex (fun cz h1 h2 j => by rw [tq_u_cell h1, tq_u_cell h2]) (fun cz h1 h2 j => by rw [tq_u_cell h1, tq_u_cell h2]) (fun j hj => by rw [tq_u_slot hj, tq_u_cell (by decide)]) ⟨tq_u_same, tq_u_same, by omega, fun j hj => ?_⟩⟩
      rw [tq_u_cell (show (112 : Nat) ≠ 111 by decide), tq_u_cell (show (119 : Nat) ≠ 117 by decide)]
      by_cases e : j = L
      · rw [e, tq_u_same, tq_u_same]; exact ⟨rfl, hc⟩
      · rw [tq_u_slot e, tq_u_slot e]; exact t4 j (by omega)
  · have hb : tq_b ((nI 0).toInt ≤ v.toInt ∧ v.toInt ≤ (nI 255).toInt) = 0 := tq_b0.mpr hc
    rw [if_pos hb, if_pos hb, if_pos hb, if_pos hb]
    exact ⟨rfl, L, k⟩
theorem tw_clearText (k : tw_inv A B w h o c L) : r_X11_clearText A w h o c L = r_X12_clearText B ∧ ∃ L', tw_inv (I_X11_clearText A w h o c L) (I_X12_clearText B) w h o c L' := by
  obtain ⟨t1, t2, t3, t4⟩ := k.tx
  unfold r_X11_clearText r_X12_clearText I_X11_clearText I_X12_clearText
  exact ⟨t1.trans t2.symm, 0, k.tex (fun cz h1 h2 j => tq_u_cell h1) (fun cz h1 h2 j => tq_u_cell h1) (fun j hj => tq_u_slot hj) ⟨tq_u_same, tq_u_same, by omega, fun j hj => absurd hj (Nat.not_lt_zero j)⟩⟩
theorem tw_written (k : tw_inv A B w h o c L) (v : Int32) (m : Nat) : r_X11_written A v w h o c L = r_X12_written B v m := by
  obtain ⟨n, b1, b2, b3, b4⟩ := k.ou
  unfold r_X11_written r_X12_written
  rw [b2, b3]
  have le : (nI n ≤ v) = ((n : Int) ≤ v.toInt) := by rw [Int32.le_iff_toInt_le, nI_toInt (by omega)]
  simp (disch := omega) only [tw_range, tw_lt0, le]
  by_cases c1 : v.toInt < 0
  · rw [if_pos c1, if_pos (by omega)]
  · rw [if_neg c1]
    by_cases c2 : v.toInt < (n : Int)
    · rw [if_neg (show ¬ (n : Int) ≤ v.toInt by omega), if_neg (show ¬ ¬ (0 ≤ v.toInt ∧ v.toInt < (n : Int)) by omega)]
      exact b4 _ (by unfold tq_N; omega)
    · rw [if_pos (show (n : Int) ≤ v.toInt by omega), if_pos (by omega)]
end TWW
/-! write -/
def tw_ot (a b : tq_I) (m : Nat) : Prop := a 113 1 = nI m ∧ b 117 5 = nI m ∧ ∀ j, j < m → a 114 j = b 120 j
theorem tw_ot.put {a b : tq_I} {m : Nat} (k : tw_ot a b m) (hm : m < 150) (v : Int32) : tw_ot (I_append113 a v) (I_X12_puts b v) (m + 1) := by
  obtain ⟨k1, k2, k3⟩ := k
  have e3 : ¬ nI 150 ≤ a 113 1 := by rw [k1, nI_leI (by omega) (by omega)]; omega
  unfold I_append113 I_X12_puts
  rw [if_neg e3, k1, k2, tq_N_nI (by omega)]
  refine ⟨by rw [tq_u_same, tq_u_cell (by decide), k1, nI_add], by rw [tq_u_same, tq_u_cell (by decide), k2, nI_add], fun j hj => ?_⟩
  rw [tq_u_cell (show (114 : Nat) ≠ 113 by decide), tq_u_cell (show (120 : Nat) ≠ 117 by decide)]
  by_cases e : j = m
  · rw [e, tq_u_same, tq_u_same]
  · rw [tq_u_slot e, tq_u_slot e]; exact k3 j (by omega)
theorem tw_q10 : ∀ q, q < 12 → 10 ≤ q → nI 48 + nI q / nI 10 = nI 49 := by decide +kernel
theorem tw_ot.item {a b : tq_I} {m q : Nat} (k : tw_ot a b m) (hq : 1 ≤ q) (hq2 : q ≤ 11) (hm : m + q ≤ 150) (t : Int32) (z : Nat) : ∃ m', m' ≤ m + q ∧ tw_ot (I_X11_writeItem a (nI q) t) (I_X12_writesItem b (nI q) t z) m' := by
  unfold I_X11_writeItem I_X12_writesItem
  simp (disch := omega) only [nI_leI, Int32.lt_iff_toInt_lt, nI_toInt]
  by_cases c1 : q ≤ 1
  · rw [if_pos (show (q : Int) < (10 : Nat) by omega), if_pos c1, if_pos (by omega), if_pos c1]
    exact ⟨m + 1, by omega, k.put (by omega) _⟩
  · by_cases c2 : q ≤ 9
    · rw [if_pos (show (q : Int) < (10 : Nat) by omega), if_neg c1, if_pos (by omega), if_neg c1]
      exact ⟨m + 1 + 1, by omega, (k.put (by omega) _).put (by omega) _⟩
    · rw [if_neg (show ¬ (q : Int) < (10 : Nat) by omega), if_neg c1, if_neg c2, if_neg c1, tw_q10 q (by omega) (by omega)]
      exact ⟨m + 1 + 1 + 1, by omega, ((k.put (by omega) _).put (by omega) _).put (by omega) _⟩
section TWX
variable {A B A' B' : tq_I} {w h o c L : Nat}
/-- one row -/
theorem tw_wrow (k : tw_inv A B w h o c L) {y m : Nat} (hy : y ≤ h) {a b : tq_I} (ko : tw_ot a b m) (hm : m ≤ 12 * y + 1) (hA : ∀ cz, cz ≠ 113 → cz ≠ 114 → ∀ j, a cz j = A cz j) (hB : ∀ cz, cz ≠ 117 → cz ≠ 120 → ∀ j, b cz j = B cz j) : ∃ m', m' ≤ 12 * (y + 1) ∧ tw_ot (I_X11_writeRow a y w) (tq_it (f_mwr1 y w h) (w + 1) 0 (nI 0, b)).2 m' := by
  have hw := k.w1
  have key := tw_it20 (f := f_wr1 y w) (g := f_mwr1 y w h) (fun i (p q : Int32 × tq_I) => (∀ cz, cz ≠ 113 → cz ≠ 114 → ∀ j, p.2 cz j = A cz j) ∧ (∀ cz, cz ≠ 117 → cz ≠ 120 → ∀ j, q.2 cz j = B cz j) ∧ ∃ n m, p.1 = nI n ∧ q.1 = nI n ∧ n ≤ i ∧ m + n ≤ 12 * y + 1 + i ∧ (i = w + 1 → n = 0) ∧ tw_ot p.2 q.2 m) (w + 1) (nI 0, a) (nI 0, b) ⟨hA, hB, 0, m, rfl, rfl, by omega, by omega, fun _ => rfl, ko⟩ (fun i p q hi hpq => by
    obtain ⟨gA, gB, n, m, e1, e2, h1, h2, h3, h4⟩ := hpq
    have t0 : q.2 118 (22 + 11 * y + i) = p.2 3 (y * 11 + i) := by rw [gA 3 (by decide) (by decide), k.T (by omega) hy, gB 118 (by decide) (by decide)]; exact tw_ix (f := B 118) (by omega)
    unfold f_wr1 f_mwr1
    rw [e1, e2, nI_add, gA 2 (by decide) (by decide), gB 118 (by decide) (by decide) 0, k.D.1, k.twh.1, t0]
    obtain ⟨m', g1, g2⟩ := h4.item (q := n + 1) (by omega) (by omega) (by omega) (p.2 3 (y * 11 + i)) (12 * y + 1 + i - tq_N (nI n))
    by_cases c1 : i = w
    · rw [if_pos (by rw [c1]), if_pos (by rw [c1])]
      exact ⟨fun cz z1 z2 j => by rw [← gA cz z1 z2 j]; exact fr_X11_writeItem _ _ _ ⟨z1, z2⟩ j, fun cz z1 z2 j => by rw [← gB cz z1 z2 j]; dsimp only; rw [fr_X12_writesItem _ _ _ _ ⟨z1, z2⟩], 0, m', rfl, rfl, by omega, by omega, fun _ => rfl, g2⟩
    · have c1' : ¬ nI i = nI w := fun z => c1 (tr_inj (by omega) (by omega) z)
      have t1 : q.2 118 (22 + 11 * y + (i + 1)) = p.2 3 (y * 11 + (i + 1)) := by rw [gA 3 (by decide) (by decide), k.T (by omega) hy, gB 118 (by decide) (by decide)]; exact tw_ix (f := B 118) (by omega)
      rw [if_neg c1', if_neg c1', t1]
      by_cases c2 : p.2 3 (y * 11 + (i + 1)) = p.2 3 (y * 11 + i)
      · rw [if_pos c2, if_pos c2]
        exact ⟨gA, gB, n + 1, m, rfl, rfl, by omega, by omega, fun z => by omega, h4⟩
      · rw [if_neg c2, if_neg c2]
        exact ⟨fun cz z1 z2 j => by rw [← gA cz z1 z2 j]; exact fr_X11_writeItem _ _ _ ⟨z1, z2⟩ j, fun cz z1 z2 j => by rw [← gB cz z1 z2 j]; dsimp only; rw [fr_X12_writesItem _ _ _ _ ⟨z1, z2⟩], 0, m', rfl, rfl, by omega, by omega, fun _ => rfl, g2⟩)
  obtain ⟨-, -, n, m2, e1, e2, h1, h2, h3, h4⟩ := key
  exact ⟨m2, by omega, h4⟩
theorem tw_fsr {y w h n i j : Nat} {a : Int32 × tq_I} (hj : j ≠ 5) : (tq_it (f_mwr1 y w h) n i a).2 117 j = a.2 117 j := tq_itP (fun (b : Int32 × tq_I) => b.2 117 j = a.2 117 j) (fun i b hb => by
  unfold f_mwr1
  (repeat' split) <;> first | exact hb | (dsimp only; rw [fs_wi hj]; exact hb)) n i a rfl
theorem tw_write (k : tw_inv A B w h o c L) : r_X11_write A w h o c L = r_X12_write B w h ∧ tw_inv (I_X11_write A w h o c L) (I_X12_write B w h) w h o c L := by
  have hw := k.w1
  unfold r_X11_write r_X12_write I_X11_write I_X12_write
  have key := tw_it20 (f := f_wr2 w h) (g := f_mwr2 w h) (fun i (a b : tq_I) => (∀ cz, cz ≠ 113 → cz ≠ 114 → ∀ j, a cz j = A cz j) ∧ (∀ cz, cz ≠ 117 → cz ≠ 120 → ∀ j, b cz j = B cz j) ∧ (∀ j, j ≠ 5 → b 117 j = B 117 j) ∧ ∃ m, m ≤ 12 * i ∧ tw_ot a b m) (h + 1) (tq_u A 113 1 (nI 0)) (tq_u B 117 5 (nI 0)) ⟨fun cz z1 z2 j => tq_u_cell z1, fun cz z1 z2 j => tq_u_cell z1, fun j hj => tq_u_slot hj, 0, by omega, tq_u_same, tq_u_same, fun j hj => absurd hj (Nat.not_lt_zero j)⟩ (fun i a b hi hab => by
    obtain ⟨gA, gB, gC, m, h1, h2⟩ := hab
    have e0 : (nI i ≤ 0) ↔ i = 0 := by rw [Int32.le_iff_toInt_le, nI_toInt (by omega), Int32.toInt_zero]; omega
    unfold f_wr2 f_mwr2
    by_cases c1 : i = 0
    · rw [if_pos (e0.mpr c1), if_pos (e0.mpr c1)]
      refine ⟨fun cz z1 z2 j => by rw [fr_X11_writeRow _ _ _ ⟨z1, z2⟩]; exact gA cz z1 z2 j, fun cz z1 z2 j => by rw [fr_mwr1 _ _ _ ⟨z1, z2⟩]; exact gB cz z1 z2 j, fun j hj => by rw [tw_fsr hj]; exact gC j hj, ?_⟩
      exact tw_wrow k (by omega) h2 (by omega) gA gB
    · rw [if_neg (fun z => c1 (e0.mp z)), if_neg (fun z => c1 (e0.mp z))]
      refine ⟨fun cz z1 z2 j => by rw [fr_X11_writeRow _ _ _ ⟨z1, z2⟩, fr_append113 _ _ ⟨z1, z2⟩]; exact gA cz z1 z2 j, fun cz z1 z2 j => by rw [fr_mwr1 _ _ _ ⟨z1, z2⟩]; show I_X12_puts b _ cz j = _; rw [fr_X12_puts _ _ ⟨z1, z2⟩]; exact gB cz z1 z2 j, fun j hj => by rw [tw_fsr hj]; show I_X12_puts b _ 117 j = _; rw [fs_puts hj]; exact gC j hj, ?_⟩
      exact tw_wrow k (by omega) (h2.put (by omega) _) (by omega) (fun cz z1 z2 j => by rw [fr_append113 _ _ ⟨z1, z2⟩]; exact gA cz z1 z2 j) (fun cz z1 z2 j => by rw [fr_X12_puts _ _ ⟨z1, z2⟩]; exact gB cz z1 z2 j))
  obtain ⟨gA, gB, gC, m, h1, h2⟩ := key
  exact ⟨h2.1.trans h2.2.1.symm, k.oup gA gB gC ⟨m, by omega, h2⟩⟩
end TWX
