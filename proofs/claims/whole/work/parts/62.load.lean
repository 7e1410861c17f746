/-! textFault, load -/
def tw_30 (b : tq_I) : Prop := ∀ j, j < 121 → 0 ≤ (b 130 j).toInt ∧ (b 130 j).toInt ≤ 5
theorem tw_30.fr {b b' : tq_I} (h : tw_30 b) (e : ∀ j, b' 130 j = b 130 j) : tw_30 b' := fun j hj => by rw [e]; exact h j hj
theorem tw_c97 {v : Int32} (h : (nI 97).toInt ≤ v.toInt ∧ v.toInt ≤ (nI 102).toInt) : 0 ≤ (v - nI 97).toInt ∧ (v - nI 97).toInt ≤ 5 := by
  rw [show (nI 97).toInt = 97 by decide, show (nI 102).toInt = 102 by decide] at h
  have ev := tq_nIN (x := v) (by omega)
  have ev2 := tq_NI (v := v) (by omega)
  have e : (v - nI 97).toInt = v.toInt - 97 := by
    conv => lhs; rw [ev]
    rw [tw_m97 _ (by omega)]; omega
  rw [e]; omega
theorem tw_30.ri {m lt ms : Int32} {ro nw q : Nat} (hl : 0 ≤ (lt - nI 97).toInt ∧ (lt - nI 97).toInt ≤ 5) (n i : Nat) (a : tq_I) (h : tw_30 a) : tw_30 (tq_it (f_mri1 m lt ms ro nw q) n i a) := tq_itP tw_30 (fun i b hb j hj => by
  unfold f_mri1
  by_cases e : j = 11 * ro + nw + i
  · rw [e, tq_u_same]; exact hl
  · rw [tq_u_slot e]; exact hb j hj) n i a h
theorem tw_30.item {b : tq_I} {L : Nat} (h : tw_30 b) : tw_30 (I_X12_readsItem b L) := by
  have h1 : tw_30 (I_X12_here (I_X12_number b L) L) := h.fr (fun j => by rw [fr_X12_here _ _ (by decide), fr_X12_number _ _ (by decide)])
  unfold I_X12_readsItem
  generalize I_X12_here (I_X12_number b L) L = H at *
  generalize r_X12_here (I_X12_number b L) L = c at *
  generalize r_X12_number b L = m at *
  have h2 : ∀ v, tw_30 (tq_u H 117 19 v) := fun v => h1.fr (fun j => tq_u_cell (by decide))
  have h3 : ∀ {a : tq_I} (v : Int32), tw_30 a → tw_30 (tq_u a 117 23 v) := fun v ha => ha.fr (fun j => tq_u_cell (by decide))
  by_cases g : tq_b ((nI 97).toInt ≤ c.toInt ∧ c.toInt ≤ (nI 102).toInt) = 0
  · rw [if_pos g, if_pos g]
    (repeat' split) <;> exact h1
  · have hl := tw_c97 (tq_b10 g)
    rw [if_neg g, if_neg g]
    have h5 : ∀ X v n, tw_30 (tq_u (tq_it (f_mri1 m c X (tq_N (b 117 22)) (tq_N (b 117 23)) (tq_N m)) n 0 (tq_u H 117 19 (H 117 19 + nI 1))) 117 23 v) := fun X v n => h3 v (tw_30.ri hl n 0 _ (h2 _))
    by_cases c1 : H 117 22 = 0
    · rw [if_pos c1]
      by_cases c2 : m = -1
      · rw [if_pos c2]; exact h1
      · rw [if_neg c2]
        by_cases c3 : H 117 23 + m ≤ nI 11
        · rw [if_pos c3]; exact h5 _ _ _
        · rw [if_neg c3]; exact h1
    · rw [if_neg c1]
      by_cases c2 : m = -1
      · rw [if_pos c2]; exact h1
      · rw [if_neg c2]
        by_cases c3 : H 117 23 + m ≤ H 117 21
        · rw [if_pos c3]; exact h5 _ _ _
        · rw [if_neg c3]; exact h1
theorem tw_30.here {a : tq_I} {L : Nat} (ha : tw_30 a) : tw_30 (I_X12_here a L) := ha.fr (fun j => fr_X12_here _ _ (by decide) j)
theorem tw_30.rws {b : tq_I} {L : Nat} (h : tw_30 b) : tw_30 (tr_rwS b L).2 := by
  unfold tr_rwS
  refine tq_wxP (fun (x : Int32 × tq_I) => tw_30 x.2) (fun x y hx e => ?_) (fun x y hx e => ?_) _ _ ?_
  · unfold f_mrr1 at e
    (repeat' split at e) <;> first | (simp only [reduceCtorEq] at e; done) | skip
    rw [← Sum.inl.inj e]
    dsimp only
    exact hx.here.here.item
  · unfold f_mrr1 at e
    (repeat' split at e) <;> first | (simp only [reduceCtorEq] at e; done) | skip
    · rw [← Sum.inr.inj e]; exact hx
    · rw [← Sum.inr.inj e]; dsimp only; exact hx.here
    · rw [← Sum.inr.inj e]; dsimp only; exact hx.here.here
  · have : tw_30 (tq_u b 117 23 (nI 0)) := h.fr (fun j => tq_u_cell (by decide))
    dsimp only
    exact this.item
theorem tw_30.row {b : tq_I} {L : Nat} (h : tw_30 b) : tw_30 (I_X12_readsRow b L) := by
  have h1 := h.rws (L := L)
  have h2 := h1.here (L := L)
  have h4 : ∀ {a : tq_I} (s : Nat) (v : Int32), tw_30 a → tw_30 (tq_u a 117 s v) := fun s v ha => ha.fr (fun j => tq_u_cell (by decide))
  unfold I_X12_readsRow
  generalize I_X12_here (tr_rwS b L).2 L = H at *
  generalize r_X12_here (tr_rwS b L).2 L = c at *
  generalize tr_rwS b L = S at *
  have h6 : ∀ v1 v2 v3 v4, tw_30 (tq_u (tq_u (tq_u (tq_u H 117 24 v1) 117 21 v2) 117 22 v3) 117 19 v4) := fun v1 v2 v3 v4 => h4 _ _ (h4 _ _ (h4 _ _ (h4 _ _ h2)))
  have h7 : ∀ v1, tw_30 (tq_u S.2 117 24 v1) := fun v1 => h4 _ _ h1
  (repeat' split) <;> first | exact h6 _ _ _ _ | exact h7 _
theorem tw_raMore {I : tq_I} {L : Nat} (k : tr_rdy I L) (h : tw_30 I) : tw_30 (I_X12_readsAll I L) ∧ 0 ≤ (I_X12_readsAll I L 117 23).toInt ∧ (I_X12_readsAll I L 117 23).toInt ≤ 11 := by
  have h0 : tw_30 (tr_raA I) := h.fr (fun j => by unfold tr_raA; rw [tq_u_cell (by decide), tq_u_cell (by decide), tq_u_cell (by decide)])
  have h23 : 0 ≤ (tr_raA I 117 23).toInt ∧ (tr_raA I 117 23).toInt ≤ 11 := by
    unfold tr_raA
    rw [tq_u_slot (by decide), tq_u_slot (by decide), tq_u_slot (by decide)]
    exact k.2.2.2
  have st : ∀ (i : Nat) (x y : Int32 × tq_I), (tr_raI L x ∧ tw_30 x.2 ∧ 0 ≤ (x.2 117 23).toInt ∧ (x.2 117 23).toInt ≤ 11) → f_mra2 L i x = some y → (tr_raI L y ∧ tw_30 y.2 ∧ 0 ≤ (y.2 117 23).toInt ∧ (y.2 117 23).toInt ≤ 11) := fun i x y hx e => by
    unfold f_mra2 at e
    split at e
    · cases e
    · rename_i hon
      have hr := hx.1.2.2.2.1 hon
      have hq := (tr_row hx.1.1 hr.1).2.2.2.1
      have hs := tr_raS hx.1 hon
      have h3 := hx.2.1.row (L := L)
      rw [← Option.some.inj e]
      generalize I_X12_readsRow x.2 L = K at *
      exact ⟨hs, h3, hq⟩
  have := tq_whP (f := f_mra2 L) (fun (x : Int32 × tq_I) => tr_raI L x ∧ tw_30 x.2 ∧ 0 ≤ (x.2 117 23).toInt ∧ (x.2 117 23).toInt ≤ 11) st 11 0 (nI 1, tr_raA I) (by dsimp only; exact ⟨tr_raA0 k, h0, h23⟩)
  unfold I_X12_readsAll tr_raE
  generalize tq_wh (f_mra2 L) 11 0 (nI 1, tr_raA I) = E at *
  exact this.2
section TWL
variable {A B A' B' : tq_I} {w h o c L : Nat}
theorem tw_inv.rdy (k : tw_inv A B w h o c L) : tr_rdy B L := ⟨k.tx.2.1, k.tx.2.2.1, k.mi.2.2.1, k.mi.2.2.2.1⟩
theorem tw_inv.read (k : tw_inv A B w h o c L) : tw_inv (I_X4_faultOf A L) (I_X12_readsAll B L) w h o c L := by
  have hf := tq_fault_ok k.tx.1 k.tx.2.2.1 k.mi.2.1
  have hm := tw_raMore k.rdy k.mi.2.2.2.2.1
  have fA : ∀ cz, cz ≠ 115 → cz ≠ 116 → ∀ j, I_X4_faultOf A L cz j = A cz j := fun cz z1 z2 j => fr_X4_faultOf A L ⟨z1, z2⟩ j
  have fB : ∀ cz, cz ≠ 117 → cz ≠ 130 → ∀ j, I_X12_readsAll B L cz j = B cz j := fun cz z1 z2 j => fr_X12_readsAll B L ⟨z1, z2⟩ j
  have f7 : ∀ j, tr_jx j → I_X12_readsAll B L 117 j = B 117 j := fun j hj => fs_readsAll k.rdy hj
  refine k.scr (fun cz hz j => fA cz (by omega) (by omega) j) (fun cz hz j => fB cz (by omega) (by omega) j) ⟨f7 1 (by unfold tr_jx; omega), f7 3 (by unfold tr_jx; omega), f7 5 (by unfold tr_jx; omega)⟩ ?_
  obtain ⟨m1, m2, m3, m4, m5, m6⟩ := k.mi
  refine ⟨⟨fun q hq => ?_, ?_⟩, hf.1, (tr_raEP k.rdy).2.2.1, hm.2, hm.1, fun j hj => ?_⟩
  · rw [fA 101 (by decide) (by decide)]; exact m1.1 q hq
  · rw [fA 99 (by decide) (by decide)]; exact m1.2
  · rw [fB 122 (by decide) (by decide), fB 123 (by decide) (by decide)]; exact m6 j hj
theorem tw_readE (k : tw_inv A B w h o c L) : (r_X12_readsAll B L = nI 0 ∧ ∃ z, z ≤ L ∧ I_X12_readsAll B L 117 19 = nI z ∧ r_X4_faultOf A L = nI z) ∨ (r_X12_readsAll B L = nI 1 ∧ r_X4_faultOf A L = -1 ∧ ∃ ro wd, 1 ≤ ro ∧ ro ≤ 10 ∧ 2 ≤ wd ∧ wd ≤ 11 ∧ I_X4_faultOf A L 115 1 = nI ro ∧ I_X4_faultOf A L 115 3 = nI wd ∧ I_X12_readsAll B L 117 21 = nI wd ∧ I_X12_readsAll B L 117 22 = nI (ro + 1) ∧ ∀ x y, x < wd → y ≤ ro → I_X4_faultOf A L 116 (y * 11 + x) = I_X12_readsAll B L 130 (y * 11 + x)) := by
  have sim : tw_sim A B L 0 (tq_u (tq_u (tq_u (tq_u A 115 1 (nI 0)) 115 2 (nI 0)) 115 3 (nI 0)) 115 4 (nI 0)) (tq_u (tr_raA B) 117 23 (nI 0)) 0 0 0 := by
    unfold tr_raA
    refine ⟨by omega, fun cz z1 z2 j => by rw [tq_u_cell z1, tq_u_cell z1, tq_u_cell z1, tq_u_cell z1], fun cz z1 z2 j => by rw [tq_u_cell z1, tq_u_cell z1, tq_u_cell z1, tq_u_cell z1], ⟨?_, ?_⟩, ⟨?_, ?_, by omega⟩, ⟨?_, tq_u_same, by omega⟩, tq_u_same, fun z => absurd rfl z, fun x y hxy => by omega⟩
    · rw [tq_u_slot (by decide), tq_u_slot (by decide), tq_u_slot (by decide), tq_u_slot (by decide)]; exact k.tx.2.1
    · rw [tq_u_slot (by decide), tq_u_slot (by decide), tq_u_slot (by decide), tq_u_same]
    · rw [tq_u_slot (by decide), tq_u_slot (by decide), tq_u_slot (by decide), tq_u_same]
    · rw [tq_u_slot (by decide), tq_u_slot (by decide), tq_u_same]
    · rw [tq_u_slot (by decide), tq_u_slot (by decide), tq_u_same]
  have key := tw_allR k.tx 11 0 0 _ _ 0 0 (by omega) sim
  unfold r_X12_readsAll I_X12_readsAll r_X4_faultOf I_X4_faultOf tr_raE
  rcases key with ⟨q1, z, a', q2, q3, q4⟩ | ⟨q1, a', ro, wd, q2, q3⟩
  · left
    rw [q4 L (by omega)]
    exact ⟨q1, z, q2, q3, rfl⟩
  · right
    rw [q2 L (by omega)]
    exact ⟨q1, rfl, ro, wd, q3⟩
theorem tw_textFault (k : tw_inv A B w h o c L) : r_X11_textFault A w h o c L = r_X12_textFault B L ∧ tw_inv (I_X11_textFault A w h o c L) (I_X12_textFault B L) w h o c L := by
  have hr := k.read
  have he := tw_readE k
  unfold r_X11_textFault r_X12_textFault I_X11_textFault I_X12_textFault
  generalize I_X4_faultOf A L = A1 at *
  generalize I_X12_readsAll B L = B1 at *
  generalize r_X4_faultOf A L = ra at *
  generalize r_X12_readsAll B L = rb at *
  refine ⟨?_, by simp only [ite_self]; exact hr⟩
  rcases he with ⟨q1, z, q2, q3, q4⟩ | ⟨q1, q2, -⟩
  · rw [q1, if_pos (by decide), q3, q4]
  · rw [q1, if_neg (by decide), q2]
theorem tw_ld (I : tq_I) {W H : Nat} (kw : tr_wh I W H) : (∀ j, j < 22 ∨ 143 ≤ j → tq_it f_mld1 121 0 I 118 j = I 118 j) ∧ ∀ j, j < 121 → tq_it f_mld1 121 0 I 118 (22 + j) = if j % 11 ≤ W ∧ j / 11 ≤ H then I 130 j else nI 0 := by
  have key := tw_it0 (f := f_mld1) (fun n (a : tq_I) => (∀ j, a 130 j = I 130 j) ∧ (∀ j, j < 22 ∨ 143 ≤ j → a 118 j = I 118 j) ∧ ∀ j, j < n → a 118 (22 + j) = if j % 11 ≤ W ∧ j / 11 ≤ H then I 130 j else nI 0) 121 I ⟨fun _ => rfl, fun _ _ => rfl, fun j hj => absurd hj (Nat.not_lt_zero j)⟩ (fun n a hn ha => by
    obtain ⟨h1, h2, h3⟩ := ha
    have ka : tr_wh a W H := kw.cong (h2 0 (by omega)) (h2 1 (by omega))
    have hc : tr_corner a (nI (n % 11)) (nI (n / 11)) ↔ n % 11 ≤ W ∧ n / 11 ≤ H := by
      rw [ka.corner, nI_toInt (by omega), nI_toInt (by omega)]; omega
    unfold f_mld1
    by_cases g : n % 11 ≤ W ∧ n / 11 ≤ H
    · rw [if_neg (fun z => tq_b0.mp z (hc.mpr g))]
      refine ⟨fun j => by rw [tq_u_cell (by decide)]; exact h1 j, fun j hj => by rw [tq_u_slot (by omega)]; exact h2 j hj, fun j hj => ?_⟩
      by_cases e : j = n
      · rw [e, tq_u_same, if_pos g, h1]
      · rw [tq_u_slot (by omega)]; exact h3 j (by omega)
    · rw [if_pos (tq_b0.mpr (fun z => g (hc.mp z)))]
      refine ⟨fun j => by rw [tq_u_cell (by decide)]; exact h1 j, fun j hj => by rw [tq_u_slot (by omega)]; exact h2 j hj, fun j hj => ?_⟩
      by_cases e : j = n
      · rw [e, tq_u_same, if_neg g]
      · rw [tq_u_slot (by omega)]; exact h3 j (by omega))
  exact key.2
theorem tw_load (k : tw_inv A B w h o c L) : r_X11_load A w h o c L = r_X12_load B L c ∧ ∃ w' h' o' c', tw_inv (I_X11_load A w h o c L) (I_X12_load B L c) w' h' o' c' L := by
  have hr := k.read
  have he := tw_readE k
  unfold r_X11_load r_X12_load I_X11_load I_X12_load
  generalize I_X4_faultOf A L = A1 at *
  generalize I_X12_readsAll B L = B1 at *
  generalize r_X4_faultOf A L = ra at *
  generalize r_X12_readsAll B L = rb at *
  rcases he with ⟨q1, z, q2, q3, q4⟩ | ⟨q1, q2, ro, wd, g1, g2, g3, g4, g5, g6, g7, g8, g9⟩
  · have hL5 := k.tx.2.2.1
    have n1 : ¬ ra = -1 := fun e => by
      rw [q4] at e
      have := congrArg Int32.toInt e
      rw [nI_toInt (by omega)] at this
      have h3 : (-1 : Int32).toInt = -1 := by decide
      omega
    have n2 : rb = 0 := q1.trans (by decide)
    rw [if_neg n1, if_pos n2, if_neg n1, if_pos n2]
    exact ⟨rfl, w, h, o, c, hr⟩
  · have n2 : ¬ rb = 0 := by rw [q1]; decide
    rw [if_pos q2, if_neg n2, if_pos q2, if_neg n2, g7, g8]
    have s := hr.sav
    have e5 : tq_rec A1 o c 115 3 = nI wd := by rw [fr_rec (by omega)]; exact g6
    have e6 : tq_rec A1 o c 115 1 = nI ro := by rw [fr_rec (by omega)]; exact g5
    rw [e5, e6, tq_N_nI (by omega), tq_N_nI (by omega), tq_N_nI (by omega), show ro + 1 - 1 = ro by omega]
    have hW : 1 ≤ wd - 1 ∧ wd - 1 ≤ 10 := by omega
    have hH : 1 ≤ ro ∧ ro ≤ 10 := by omega
    obtain ⟨p1, p2, p3⟩ := tw_start (I := tq_rec A1 o c) (t := nI 0) hW hH
    obtain ⟨u1, u2, u3, u4⟩ := tw_begins (B := tr_sav B1 c) hW hH
    have f116 : ∀ j, I_X8_startMap (tq_rec A1 o c) (wd - 1) ro (nI 0) 116 j = A1 116 j := fun j => by rw [fr_X8_startMap _ _ _ _ (by decide), fr_rec (by omega)]
    have f130 : ∀ j, I_X12_begins (tr_sav B1 c) (wd - 1) ro 130 j = B1 130 j := fun j => by rw [fr_X12_begins _ _ _ (by decide), fr_sav (by decide)]
    have fA : ∀ cz, cz ≠ 2 → cz ≠ 3 → cz ≠ 4 → cz ≠ 13 → cz ≠ 15 → cz ≠ 16 → ∀ j, I_X8_startMap (tq_rec A1 o c) (wd - 1) ro (nI 0) cz j = tq_rec A1 o c cz j := fun cz h1 h2 h3 h4 h5 h6 j => fr_X8_startMap _ _ _ _ ⟨h1, h2, h3, h4, h5, h6⟩ j
    have fB : ∀ cz, cz ≠ 118 → ∀ j, I_X12_begins (tr_sav B1 c) (wd - 1) ro cz j = tr_sav B1 c cz j := fun cz hz j => fr_X12_begins _ _ _ hz j
    have m30 := hr.mi.2.2.2.2.1
    generalize I_X8_startMap (tq_rec A1 o c) (wd - 1) ro (nI 0) = A2 at *
    generalize I_X12_begins (tr_sav B1 c) (wd - 1) ro = B2 at *
    obtain ⟨l1, l2⟩ := tw_ld B2 (W := wd - 1) (H := ro) ⟨u1.1, u1.2, hW.1, hW.2, hH.1, hH.2⟩
    have l3 : ∀ cz, cz ≠ 118 → ∀ j, tq_it f_mld1 121 0 B2 cz j = B2 cz j := fun cz hz j => fr_mld1 hz 121 0 B2 j
    generalize tq_it f_mld1 121 0 B2 = B3 at *
    have c3 : ∀ j, j < 121 → tq_cp A2 116 0 3 0 121 3 j = A1 116 j := fun j hj => by rw [tw_cp_in hj, f116]
    have co : ∀ cz, cz ≠ 3 → ∀ j, tq_cp A2 116 0 3 0 121 cz j = A2 cz j := fun cz hz j => tq_cp_cell hz
    generalize tq_cp A2 116 0 3 0 121 = A3 at *
    refine ⟨by rw [co 2 (by decide), co 2 (by decide), p1.1, p1.2, l1 0 (by omega), l1 1 (by omega), u1.1, u1.2], wd - 1, ro, tq_o1 o c, tq_c1n c, ?_⟩
    refine s.map (fun cz h1 h2 h3 h4 h5 h6 j => by rw [co cz h2]; exact fA cz h1 h2 h3 h4 h5 h6 j) (fun cz hz j => by rw [l3 cz hz]; exact fB cz hz j) (fun j hj => by rw [l1 j (by omega)]; exact u2 j hj) ⟨by rw [co 2 (by decide), co 2 (by decide)]; exact p1, by rw [l1 0 (by omega)]; exact u1.1, by rw [l1 1 (by omega)]; exact u1.2⟩ hW hH ⟨fun x y hx hy => ?_, fun j hj => ?_⟩ (fun j hj => ?_)
    · show A3 3 (y * 11 + x) = B3 118 (22 + (y * 11 + x))
      rw [c3 _ (by omega), l2 _ (by omega), if_pos (by omega), f130]
      exact g9 x y (by omega) hy
    · show 0 ≤ (B3 118 (22 + j)).toInt ∧ (B3 118 (22 + j)).toInt ≤ 5
      rw [l2 j hj]
      split
      · rw [f130]; exact m30 j hj
      · decide
    · obtain ⟨v1, v2, v3, v4⟩ := p3 j hj
      obtain ⟨x1, x2, x3⟩ := u4 j hj
      exact ⟨by rw [co 4 (by decide)]; exact v1, by rw [co 13 (by decide)]; exact v2, by rw [co 15 (by decide)]; exact v3, by rw [co 16 (by decide)]; exact v4, by rw [l1 _ (by omega)]; exact u3 _ (by omega) (by omega), by rw [l1 _ (by omega)]; exact x1, by rw [l1 _ (by omega)]; exact x2, by rw [l1 _ (by omega)]; exact x3⟩
end TWL
