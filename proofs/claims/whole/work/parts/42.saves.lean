/-! what standing alike gives to either side; saves, undo -/
section TWI
variable {A B A' B' : tq_I} {w h o c L : Nat}
theorem tw_inv.w1 (k : tw_inv A B w h o c L) : 1 ≤ w ∧ w ≤ 10 ∧ 1 ≤ h ∧ h ≤ 10 := k.1.1.2.2.2.2
theorem tw_inv.twh (k : tw_inv A B w h o c L) : tr_wh B w h := ⟨k.1.1.2.2.1, k.1.1.2.2.2.1, k.w1.1, k.w1.2.1, k.w1.2.2.1, k.w1.2.2.2⟩
theorem tw_inv.D (k : tw_inv A B w h o c L) : A 2 0 = nI w ∧ A 2 1 = nI h := ⟨k.1.1.1, k.1.1.2.1⟩
theorem tw_inv.T (k : tw_inv A B w h o c L) {x y : Nat} (hx : x ≤ w) (hy : y ≤ h) : A 3 (y * 11 + x) = B 118 (22 + (y * 11 + x)) := k.1.2.1.1 x y hx hy
theorem tw_inv.Tr (k : tw_inv A B w h o c L) {j : Nat} (hj : j < 121) : 0 ≤ (B 118 (22 + j)).toInt ∧ (B 118 (22 + j)).toInt ≤ 5 := k.1.2.1.2 j hj
theorem tw_inv.Pa (k : tw_inv A B w h o c L) {j : Nat} (hj : j < 100) : A 4 j = B 118 (143 + j) ∧ (B 118 (143 + j) = 0 ∨ B 118 (143 + j) = 1) ∧ (¬ tw_in w h j → B 118 (143 + j) = 0) := k.1.2.2.1 j hj
theorem tw_inv.K (k : tw_inv A B w h o c L) : ∃ e f : Nat → Nat, (∀ r, r < 6 → e r < 6 ∧ f (e r) = r ∧ A 7 r = nI (e r) ∧ B 118 (4 + r) = nI (e r)) ∧ ∀ t, t < 6 → f t < 6 ∧ e (f t) = t ∧ A 6 t = nI (f t) := k.1.2.2.2.1
theorem tw_inv.U (k : tw_inv A B w h o c L) {t : Nat} (ht : t < 6) : tm_tiles (A 10 t) (fun m => A 11 (t * 16 + m)) ∧ A 10 t = B 118 (10 + t) ∧ A 8 t = B 118 (16 + t) ∧ 1 ≤ (A 8 t).toInt ∧ (A 8 t).toInt ≤ 8 := k.1.2.2.2.2.1.1 t ht
theorem tw_inv.U2 (k : tw_inv A B w h o c L) : A 5 4 = B 118 2 ∧ A 5 5 = B 118 3 ∧ (A 5 5 = 0 ∨ A 5 5 = 1) := k.1.2.2.2.2.1.2
theorem tw_inv.X (k : tw_inv A B w h o c L) {j : Nat} (hj : j < 100) : A 16 j = B 118 (243 + j) ∧ (B 118 (243 + j) = 0 ∨ B 118 (243 + j) = 1) ∧ (¬ tw_in w h j → B 118 (243 + j) = 0) := k.1.2.2.2.2.2.1 j hj
theorem tw_inv.V (k : tw_inv A B w h o c L) {j : Nat} (hj : j < 100) : A 13 j = B 118 (343 + 10 * j) ∧ (0 ≤ (A 13 j).toInt ∧ (A 13 j).toInt ≤ 7) ∧ A 15 j = B 118 (343 + 10 * j + 1) ∧ (¬ tw_in w h j → A 13 j = 0) ∧ ∀ k, k < tq_N (A 13 j) → (0 ≤ (A 14 (j * 7 + k)).toInt ∧ (A 14 (j * 7 + k)).toInt ≤ 383) ∧ B 118 (343 + 10 * j + 2 + k) = nI (tw_rc (tq_N (A 14 (j * 7 + k)))) := k.1.2.2.2.2.2.2 j hj
theorem tw_inv.hc (k : tw_inv A B w h o c L) : A 17 1 = nI o ∧ A 17 2 = nI c ∧ B 117 1 = nI c ∧ o < 5 ∧ c ≤ 5 := ⟨k.2.2.1.1, k.2.2.1.2.1, k.2.2.1.2.2.1, k.2.2.1.2.2.2.1, k.2.2.1.2.2.2.2.1⟩
theorem tw_inv.tx (k : tw_inv A B w h o c L) : A 111 1 = nI L ∧ B 117 3 = nI L ∧ L ≤ 150 ∧ ∀ j, j < L → A 112 j = B 119 j ∧ 0 ≤ (A 112 j).toInt ∧ (A 112 j).toInt ≤ 255 := k.2.2.2.1
theorem tw_inv.ou (k : tw_inv A B w h o c L) : ∃ m, m ≤ 150 ∧ A 113 1 = nI m ∧ B 117 5 = nI m ∧ ∀ j, j < m → A 114 j = B 120 j := k.2.2.2.2.1
theorem tw_inv.mi (k : tw_inv A B w h o c L) : tw_mis A B := k.2.2.2.2.2
theorem tw_e5 {e : Nat} (h : e < 6) : 0 ≤ (nI e).toInt ∧ (nI e).toInt ≤ 5 := by rw [nI_toInt (by omega)]; omega
theorem tw_inv.ok (k : tw_inv A B w h o c L) : tq_ok A w h o c L := by
  obtain ⟨e, f, h1, h2⟩ := k.K
  obtain ⟨m, m1, m2, -⟩ := k.ou
  have hw := k.w1
  refine ⟨⟨k.D.1, k.D.2, hw⟩, fun x y hx hy => ?_, ⟨fun t ht => ?_, fun t ht => ?_, k.U2.2.2⟩, fun cl hcl => ?_, ⟨k.hc.1, k.hc.2.1, k.hc.2.2.2.1, k.hc.2.2.2.2, k.2.2.1.2.2.2.2.2⟩, k.mi.1, ⟨k.tx.1, k.tx.2.2.1⟩, ?_⟩
  · rw [k.T hx hy]; exact k.Tr (by omega)
  · rw [(h2 t ht).2.2]; exact tw_e5 (h2 t ht).1
  · rw [(h1 t ht).2.2.1]; exact tw_e5 (h1 t ht).1
  · obtain ⟨-, a2, -, -, a5⟩ := k.V hcl
    exact ⟨a2, fun q hq => (a5 q hq).1⟩
  · rw [m2, nI_toInt (by omega)]; omega
theorem tw_inv.rul (k : tw_inv A B w h o c L) : tm_rul A := fun t ht => ⟨(k.U ht).1, (k.U ht).2.2.2⟩
theorem tw_inv.ord (k : tw_inv A B w h o c L) : tr_ord B := by
  obtain ⟨e, f, h1, h2⟩ := k.K
  refine ⟨fun t ht => ⟨f t, ?_, ?_⟩, fun q hq => ?_⟩
  · have := (h2 t (by omega)).1; omega
  · rw [(h1 (f t) (h2 t (by omega)).1).2.2.2, (h2 t (by omega)).2.1]
  · rw [(h1 q (by omega)).2.2.2]; exact tw_e5 (h1 q (by omega)).1
theorem tw_inv.bas (k : tw_inv A B w h o c L) : tr_bas B w h := by
  refine ⟨k.twh, k.ord, fun j hj => k.Tr hj, fun t ht e => ?_⟩
  have := (k.U (show t < 6 by omega)).2.2
  rw [this.1, e] at this
  have h0 : (0 : Int32).toInt = 0 := by decide
  omega
theorem tw_inv.pc (k : tw_inv A B w h o c L) : tr_pc B := fun j hj => by
  have := k.V hj
  rw [← this.1]; exact this.2.1
/-- nothing of it changed but what is made for a moment -/
theorem tw_inv.scr (k : tw_inv A B w h o c L) (hA : ∀ cz, cz < 99 ∨ cz = 111 ∨ cz = 112 ∨ cz = 113 ∨ cz = 114 → ∀ j, A' cz j = A cz j) (hB : ∀ cz, cz = 118 ∨ cz = 119 ∨ cz = 120 → ∀ j, B' cz j = B cz j) (hB1 : B' 117 1 = B 117 1 ∧ B' 117 3 = B 117 3 ∧ B' 117 5 = B 117 5) (hm : tw_mis A' B') : tw_inv A' B' w h o c L := by
  obtain ⟨a1, a2, a3, a4, a5, a6⟩ := k
  refine ⟨a1.cong (fun q j hq => hA _ (by unfold tw_rg at hq; omega) j) (fun j _ => hB _ (by omega) j), fun i hi => ?_, ?_, ?_, ?_, hm⟩
  · obtain ⟨w', h', q⟩ := a2 i hi
    exact ⟨w', h', q.cong (fun q j hq => hA _ (by unfold tw_rg at hq; omega) j) (fun j _ => hB _ (by omega) _)⟩
  · obtain ⟨b1, b2, b3, b4, b5, b6⟩ := a3
    refine ⟨by rw [hA _ (by omega)]; exact b1, by rw [hA _ (by omega)]; exact b2, by rw [hB1.1]; exact b3, b4, b5, fun q hq => by rw [hA _ (by omega)]; exact b6 q hq⟩
  · obtain ⟨b1, b2, b3, b4⟩ := a4
    refine ⟨by rw [hA _ (by omega)]; exact b1, by rw [hB1.2.1]; exact b2, b3, fun j hj => by rw [hA _ (by omega), hB _ (by omega)]; exact b4 j hj⟩
  · obtain ⟨m, b1, b2, b3, b4⟩ := a5
    refine ⟨m, b1, by rw [hA _ (by omega)]; exact b2, by rw [hB1.2.2]; exact b3, fun j hj => by rw [hA _ (by omega), hB _ (by omega)]; exact b4 j hj⟩
theorem tw_mis.cong (k : tw_mis A B) (hA : ∀ cz, cz = 99 ∨ cz = 101 ∨ cz = 116 → ∀ j, A' cz j = A cz j) (hB : B' 117 21 = B 117 21 ∧ B' 117 23 = B 117 23) (hB1 : ∀ cz, cz = 122 ∨ cz = 123 ∨ cz = 130 → ∀ j, B' cz j = B cz j) : tw_mis A' B' := by
  unfold tw_mis tq_rd at *
  simp only [hA 99 (by omega), hA 101 (by omega), hA 116 (by omega), hB.1, hB.2, hB1 122 (by omega), hB1 123 (by omega), hB1 130 (by omega)]
  exact k
/-- only the present state changed -/
theorem tw_inv.now {w' h' : Nat} (k : tw_inv A B w h o c L) (hA : ∀ cz, cz < 1 ∨ 16 < cz → ∀ j, A' cz j = A cz j) (hB : ∀ cz, cz ≠ 118 → ∀ j, B' cz j = B cz j) (hQ : ∀ j, 1343 ≤ j → B' 118 j = B 118 j) (q : tw_St (tw_now A') (tw_row0 B') w' h') : tw_inv A' B' w' h' o c L := by
  obtain ⟨a1, a2, a3, a4, a5, a6⟩ := k
  refine ⟨q, fun i hi => ?_, ?_, ?_, ?_, a6.cong (fun cz hz j => hA _ (by omega) j) ⟨hB _ (by decide) _, hB _ (by decide) _⟩ (fun cz hz j => hB _ (by omega) j)⟩
  · obtain ⟨w', h', q⟩ := a2 i hi
    exact ⟨w', h', q.cong (fun q j hq => hA _ (by unfold tw_rg at hq; omega) j) (fun j _ => hQ _ (by omega))⟩
  · obtain ⟨b1, b2, b3, b4, b5, b6⟩ := a3
    refine ⟨by rw [hA _ (by omega)]; exact b1, by rw [hA _ (by omega)]; exact b2, by rw [hB _ (by decide)]; exact b3, b4, b5, fun q hq => by rw [hA _ (by omega)]; exact b6 q hq⟩
  · obtain ⟨b1, b2, b3, b4⟩ := a4
    refine ⟨by rw [hA _ (by omega)]; exact b1, by rw [hB _ (by decide)]; exact b2, b3, fun j hj => by rw [hA _ (by omega), hB _ (by decide)]; exact b4 j hj⟩
  · obtain ⟨m, b1, b2, b3, b4⟩ := a5
    refine ⟨m, b1, by rw [hA _ (by omega)]; exact b2, by rw [hB _ (by decide)]; exact b3, fun j hj => by rw [hA _ (by omega), hB _ (by decide)]; exact b4 j hj⟩
/-- either side seen in another store -/
theorem tw_inv.cong (k : tw_inv A B w h o c L) (hA : ∀ cz, cz < 117 → ∀ j, A' cz j = A cz j) (hB : ∀ cz, 117 ≤ cz → ∀ j, B' cz j = B cz j) : tw_inv A' B' w h o c L :=
  k.scr (fun cz hz j => hA _ (by omega) j) (fun cz hz j => hB _ (by omega) j) ⟨hB _ (by omega) _, hB _ (by omega) _, hB _ (by omega) _⟩ (k.mi.cong (fun cz hz j => hA _ (by omega) j) ⟨hB _ (by omega) _, hB _ (by omega) _⟩ (fun cz hz j => hB _ (by omega) j))
end TWI
theorem tw_cpr {B : tq_I} {f t t' j : Nat} (hj : j < 1343) : tq_cp B 118 (1343 * f) 118 (1343 * t) 1343 118 (1343 * t' + j) = if t' = t then B 118 (1343 * f + j) else B 118 (1343 * t' + j) := by
  unfold tq_cp
  by_cases e : t' = t
  · subst e
    rw [if_pos rfl, if_pos ⟨rfl, by omega, by omega⟩]
    exact tw_ix (f := B 118) (by omega)
  · rw [if_neg e, if_neg (by omega)]
theorem tw_sav5 {B : tq_I} {i j : Nat} (hj : j < 1343) (hi : i < 5) : tr_sav B 5 118 (1343 * (i + 1) + j) = if i = 4 then B 118 j else B 118 (1343 * (i + 1 + 1) + j) := by
  unfold tr_sav
  rw [if_pos rfl, tw_cpr hj]
  rcases (show i = 0 ∨ i = 1 ∨ i = 2 ∨ i = 3 ∨ i = 4 by omega) with rfl | rfl | rfl | rfl | rfl
  · rw [if_neg (by decide), if_neg (by decide), tq_u_cell (by decide), tw_cpr hj, if_neg (by decide), tw_cpr hj, if_neg (by decide), tw_cpr hj, if_neg (by decide), tw_cpr hj, if_pos (by decide)]
  · rw [if_neg (by decide), if_neg (by decide), tq_u_cell (by decide), tw_cpr hj, if_neg (by decide), tw_cpr hj, if_neg (by decide), tw_cpr hj, if_pos (by decide), tw_cpr hj, if_neg (by decide)]
  · rw [if_neg (by decide), if_neg (by decide), tq_u_cell (by decide), tw_cpr hj, if_neg (by decide), tw_cpr hj, if_pos (by decide), tw_cpr hj, if_neg (by decide), tw_cpr hj, if_neg (by decide)]
  · rw [if_neg (by decide), if_neg (by decide), tq_u_cell (by decide), tw_cpr hj, if_pos (by decide), tw_cpr hj, if_neg (by decide), tw_cpr hj, if_neg (by decide), tw_cpr hj, if_neg (by decide)]
  · rw [if_pos (by decide), if_pos (by decide), tq_u_cell (by decide), tw_cpr hj, if_neg (by decide), tw_cpr hj, if_neg (by decide), tw_cpr hj, if_neg (by decide), tw_cpr hj, if_neg (by decide)]
    exact tw_ix (f := B 118) (by omega)
theorem tw_savL {B : tq_I} {c i j : Nat} (hc : c < 5) (hj : j < 1343) : tr_sav B c 118 (1343 * (i + 1) + j) = if i = c then B 118 j else B 118 (1343 * (i + 1) + j) := by
  unfold tr_sav
  rw [if_neg (by omega), tw_cpr hj]
  by_cases e : i = c
  · subst e
    rw [if_pos rfl, if_pos rfl, tq_u_cell (by decide)]
    exact tw_ix (f := B 118) (by omega)
  · rw [if_neg (by omega), if_neg e, tq_u_cell (by decide)]
theorem tw_rec_o {A : tq_I} {o c m k j : Nat} (hm : m < 5) (h : m ≠ (o + c) % 5) (hk : tw_rg k j) : tq_rec A o c (19 + 16 * m + k) j = A (19 + 16 * m + k) j := by
  have h5 : (o + c) % 5 < 5 := Nat.mod_lt _ (by decide)
  have hk1 : 1 ≤ k ∧ k ≤ 15 := by unfold tw_rg at hk; omega
  unfold tq_rec
  split <;> rw [tq_u_cell (by omega), tq_cpSt_cell (by omega)]
theorem tw_rec_n {A : tq_I} {o c k j : Nat} (hk : tw_rg k j) : tq_rec A o c (19 + 16 * ((o + c) % 5) + k) j = A (1 + k) j := by
  have h5 : (o + c) % 5 < 5 := Nat.mod_lt _ (by decide)
  have hk1 : 1 ≤ k ∧ k ≤ 15 := by unfold tw_rg at hk; omega
  unfold tq_rec
  split <;> rw [tq_u_cell (by omega), tw_cpSt (by omega) hk]
theorem tw_inv.sav {A B : tq_I} {w h o c L : Nat} (k : tw_inv A B w h o c L) : tw_inv (tq_rec A o c) (tr_sav B c) w h (tq_o1 o c) (tq_c1n c) L := by
  have hok := k.ok.rec
  have ho := k.hc.2.2.2.1
  have hc := k.hc.2.2.2.2
  obtain ⟨a1, a2, a3, a4, a5, a6⟩ := k
  have eB : ∀ cz, cz ≠ 117 → cz ≠ 118 → ∀ j, tr_sav B c cz j = B cz j := fun cz h1 h2 j => fr_sav ⟨h1, h2⟩ j
  have e117 : ∀ j, j ≠ 1 → tr_sav B c 117 j = B 117 j := by
    intro j hj
    unfold tr_sav
    split <;> simp (disch := first | decide | exact hj) only [tq_cp_cell, tq_u_slot]
  refine ⟨a1.cong (fun q j hq => fr_rec (by unfold tw_rg at hq; omega) j) (fun j hj => fs_sav hj), fun i hi => ?_, ⟨hok.ho, hok.hc, ?_, hok.o5, hok.c5, hok.hbd⟩, ?_, ?_, a6.cong (fun cz hz j => fr_rec (by omega) j) ⟨e117 _ (by decide), e117 _ (by decide)⟩ (fun cz hz j => eB _ (by omega) (by omega) j)⟩
  · by_cases h5 : c < 5
    · unfold tq_c1n at hi
      unfold tq_o1
      rw [if_pos h5] at hi ⊢
      by_cases e : i = c
      · subst e
        exact ⟨w, h, a1.cong (fun q j hq => tw_rec_n hq) (fun j hj => by show tr_sav B i 118 _ = _; rw [tw_savL h5 hj, if_pos rfl])⟩
      · obtain ⟨w', h', q⟩ := a2 i (by omega)
        exact ⟨w', h', q.cong (fun q j hq => tw_rec_o (by omega) (by omega) hq) (fun j hj => by show tr_sav B c 118 _ = _; rw [tw_savL h5 hj, if_neg e])⟩
    · have e5 : c = 5 := by omega
      subst e5
      unfold tq_c1n at hi
      unfold tq_o1
      rw [if_neg h5] at hi ⊢
      by_cases e : i = 4
      · subst e
        rw [show ((o + 1) % 5 + 4) % 5 = (o + 5) % 5 by omega]
        exact ⟨w, h, a1.cong (fun q j hq => tw_rec_n hq) (fun j hj => by show tr_sav B 5 118 _ = _; rw [tw_sav5 hj (by decide), if_pos rfl])⟩
      · obtain ⟨w', h', q⟩ := a2 (i + 1) (by omega)
        rw [show ((o + 1) % 5 + i) % 5 = (o + (i + 1)) % 5 by omega]
        exact ⟨w', h', q.cong (fun q j hq => tw_rec_o (by omega) (by omega) hq) (fun j hj => by show tr_sav B 5 118 _ = _; rw [tw_sav5 hj (by omega), if_neg e])⟩
  · unfold tr_sav tq_c1n
    by_cases h5 : c = 5
    · subst h5
      rw [if_pos rfl, if_neg (by decide), tq_cp_cell (by decide), tq_u_same]
    · rw [if_neg h5, if_pos (by omega), tq_cp_cell (by decide), tq_u_same]
  · obtain ⟨b1, b2, b3, b4⟩ := a4
    refine ⟨by rw [fr_rec (by omega)]; exact b1, by rw [e117 _ (by decide)]; exact b2, b3, fun j hj => by rw [fr_rec (by omega), eB _ (by decide) (by decide)]; exact b4 j hj⟩
  · obtain ⟨m, b1, b2, b3, b4⟩ := a5
    refine ⟨m, b1, by rw [fr_rec (by omega)]; exact b2, by rw [e117 _ (by decide)]; exact b3, fun j hj => by rw [fr_rec (by omega), eB _ (by decide) (by decide)]; exact b4 j hj⟩
/-- undo -/
theorem tw_undo {A B : tq_I} {w h o c L : Nat} (k : tw_inv A B w h o c L) : r_X11_undo A w h o c L = r_X12_undo B c ∧ ∃ w' h' c', tw_inv (I_X11_undo A w h o c L) (I_X12_undo B c) w' h' o c' L := by
  have ho := k.hc.2.2.2.1
  have hc5 := k.hc.2.2.2.2
  unfold r_X11_undo r_X12_undo I_X11_undo I_X12_undo
  rw [k.hc.2.1, k.hc.2.2.1]
  by_cases h0 : nI c = 0
  · rw [if_pos h0, if_pos h0, if_pos h0, if_pos h0]
    exact ⟨rfl, w, h, c, k⟩
  · rw [if_neg h0, if_neg h0, if_neg h0, if_neg h0]
    have hc1 : 1 ≤ c := by
      rcases Nat.eq_zero_or_pos c with e | e
      · subst e; exact absurd nI_0 h0
      · exact e
    have e1 : tq_cp B 118 (1343 * c) 118 (1343 * 0) 1343 117 1 = nI c := by rw [tq_cp_cell (by decide)]; exact k.hc.2.2.1
    rw [e1, tq_sub_nI hc1]
    have hA : ∀ cz, cz < 1 ∨ 16 < cz → (cz ≠ 17) → ∀ j, tq_res A o c cz j = A cz j := fun cz hz h17 j => by
      unfold tq_res
      rw [tq_cpSt_cell (by omega), tq_u_cell h17]
    have h17 : ∀ j, j ≠ 2 → tq_res A o c 17 j = A 17 j := fun j hj => by
      unfold tq_res
      rw [tq_cpSt_cell (by omega), tq_u_slot hj]
    have h172 : tq_res A o c 17 2 = nI (c - 1) := by
      unfold tq_res
      rw [tq_cpSt_cell (by omega), tq_u_same]
    refine ⟨by rw [h172, tq_u_same], ?_⟩
    obtain ⟨w', h', q⟩ := k.2.1 (c - 1) (by omega)
    refine ⟨w', h', c - 1, ?_⟩
    have hB : ∀ cz, cz ≠ 117 → cz ≠ 118 → ∀ j, tq_u (tq_cp B 118 (1343 * c) 118 (1343 * 0) 1343) 117 1 (nI (c - 1)) cz j = B cz j := fun cz h1 h2 j => by rw [tq_u_cell h1, tq_cp_cell h2]
    have hB7 : ∀ j, j ≠ 1 → tq_u (tq_cp B 118 (1343 * c) 118 (1343 * 0) 1343) 117 1 (nI (c - 1)) 117 j = B 117 j := fun j hj => by rw [tq_u_slot hj, tq_cp_cell (by decide)]
    obtain ⟨a1, a2, a3, a4, a5, a6⟩ := k
    refine ⟨q.cong (fun q j hq => ?_) (fun j hj => ?_), fun i hi => ?_, ?_, ?_, ?_, a6.cong (fun cz hz j => hA _ (by omega) (by omega) j) ⟨hB7 _ (by decide), hB7 _ (by decide)⟩ (fun cz hz j => hB _ (by omega) (by omega) j)⟩
    · show tq_res A o c (1 + q) j = A (19 + 16 * ((o + (c - 1)) % 5) + q) j
      unfold tq_res
      rw [tw_cpSt (by omega) hq, tq_u_cell (by unfold tw_rg at hq; omega)]
    · show tq_u (tq_cp B 118 (1343 * c) 118 (1343 * 0) 1343) 117 1 (nI (c - 1)) 118 j = B 118 (1343 * (c - 1 + 1) + j)
      rw [tq_u_cell (by decide)]
      have := tw_cpr (B := B) (f := c) (t := 0) (t' := 0) hj
      rw [if_pos rfl, Nat.mul_zero, Nat.zero_add] at this
      rw [Nat.mul_zero, this, show c - 1 + 1 = c by omega]
    · obtain ⟨w', h', q⟩ := a2 i (by omega)
      refine ⟨w', h', q.cong (fun q j hq => hA _ (by unfold tw_rg at hq; omega) (by unfold tw_rg at hq; omega) j) (fun j hj => ?_)⟩
      show tq_u (tq_cp B 118 (1343 * c) 118 (1343 * 0) 1343) 117 1 (nI (c - 1)) 118 (1343 * (i + 1) + j) = _
      rw [tq_u_cell (by decide), tw_cpr hj, if_neg (by omega)]
    · obtain ⟨b1, b2, b3, b4, b5, b6⟩ := a3
      exact ⟨by rw [h17 _ (by decide)]; exact b1, h172, tq_u_same, b4, by omega, fun q hq => by rw [hA _ (by omega) (by omega)]; exact b6 q hq⟩
    · obtain ⟨b1, b2, b3, b4⟩ := a4
      refine ⟨by rw [hA _ (by omega) (by omega)]; exact b1, by rw [hB7 _ (by decide)]; exact b2, b3, fun j hj => by rw [hA _ (by omega) (by omega), hB _ (by decide) (by decide)]; exact b4 j hj⟩
    · obtain ⟨m, b1, b2, b3, b4⟩ := a5
      refine ⟨m, b1, by rw [hA _ (by omega) (by omega)]; exact b2, by rw [hB7 _ (by decide)]; exact b3, fun j hj => by rw [hA _ (by omega) (by omega), hB _ (by decide) (by decide)]; exact b4 j hj⟩
