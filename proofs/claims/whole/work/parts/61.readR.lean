/-! rows, on both sides -/
section TWQ
variable {A B a b : tq_I} {L p ro co wd : Nat}
theorem tw_sim.here (k : tw_sim A B L p a b ro co wd) (hs : tr_skI b L ≤ L) : tw_sim A B L (tr_skI b L) a (I_X12_here b L) ro co wd := by
  obtain ⟨hpL, kA, kB, ⟨b3, b19⟩, ⟨a1, b22, hro⟩, ⟨a2, b23, hco⟩, a4, kw, kt⟩ := k
  refine ⟨hs, kA, fun cz z1 z2 j => by rw [fr_X12_here _ _ z1]; exact kB cz z1 z2 j, ⟨by rw [fs_here _ _ _ (by decide)]; exact b3, tr_hereP⟩, ⟨a1, by rw [fs_here _ _ _ (by decide)]; exact b22, hro⟩, ⟨a2, by rw [fs_here _ _ _ (by decide)]; exact b23, hco⟩, a4, fun z => by rw [fs_here _ _ _ (by decide)]; exact kw z, fun x y hxy => by rw [fr_X12_here _ _ (by decide)]; exact kt x y hxy⟩
theorem tw_skh (hs : tr_skI b L ≤ 150) (h : L ≤ tr_skI b L ∨ ¬ b 119 (tr_skI b L) = nI 32) : tr_skI (I_X12_here b L) L = tr_skI b L := by
  conv => lhs; unfold tr_skI
  rw [tr_hereP, tq_N_nI (by omega)]
  exact tw_sk0 _ (h.imp id (fun z => by rw [fr_X12_here _ _ (by decide)]; exact z))
theorem tw_wx0 (n : Nat) (b : tq_I) : tq_wx (f_mrr1 L) n (nI 0, b) = (nI 0, b) := by
  cases n with
  | zero => rfl
  | succ m => exact tq_wx_x (by simp only [f_mrr1, if_pos (show nI 0 = 0 by decide)])
theorem tw_rowl (tx : tw_txt A B L) : ∀ (n p : Nat) (a b : tq_I) (co : Nat), tw_sim A B L p a b ro co wd → 1 ≤ co → L + 1 ≤ n + p → ((tq_wx (f_mrr1 L) n (nI 1, b)).1 = nI 0 ∧ ∃ z a', z ≤ L ∧ (tq_wx (f_mrr1 L) n (nI 1, b)).2 117 19 = nI z ∧ tw_rn L p a (nI z, a')) ∨ ((tq_wx (f_mrr1 L) n (nI 1, b)).1 = nI 1 ∧ ∃ q a' co', tw_sim A B L q a' (tq_wx (f_mrr1 L) n (nI 1, b)).2 ro co' wd ∧ 1 ≤ co' ∧ (q = L ∨ (q < L ∧ a' 112 q = nI 47)) ∧ ∀ r, tw_rn L q a' r → tw_rn L p a r)
  | 0, p, a, b, co, k, _, hn => by have := k.1; omega
  | n + 1, p, a, b, co, k, hco1, hn => by
    have hL5 := tx.2.2.1
    have hL : a 111 1 = nI L := by rw [k.2.1 111 (by decide) (by decide)]; exact tx.1
    have hT : ∀ j, j < L → b 119 j = a 112 j := fun j hj => by rw [k.2.2.1 119 (by decide) (by decide), k.2.1 112 (by decide) (by decide)]; exact (tx.2.2.2 j hj).1.symm
    obtain ⟨s, es, h1, h2, h5, h6, h7⟩ := tw_here hL hL5 k.1 k.2.2.2.1.1 k.2.2.2.1.2 hT
    have k1 := k.here (by omega)
    rw [es] at k1
    have n1 : ¬ nI 1 = 0 := by decide
    have sh : tr_skI (I_X12_here b L) L = s := by
      rw [tw_skh (by omega), es]
      rw [es]
      by_cases c : L ≤ s
      · exact Or.inl c
      · right; rw [hT _ (by omega)]; exact h6 (by omega)
    have k2 := k1.here (by omega)
    rw [sh] at k2
    have hT1 : ∀ j, j < L → I_X12_here b L 119 j = a 112 j := fun j hj => by rw [fr_X12_here _ _ (by decide)]; exact hT j hj
    obtain ⟨s', es', -, -, -, -, h7'⟩ := tw_here hL hL5 k1.1 k1.2.2.2.1.1 k1.2.2.2.1.2 hT1
    have e' : s' = s := by rw [← es', sh]
    subst e'
    by_cases c47 : r_X12_here b L = nI 47
    · have ef : f_mrr1 L (nI 1, b) = .inr (nI 1, I_X12_here b L) := by simp only [f_mrr1, if_neg n1, if_pos c47]
      rw [tq_wx_x ef]
      right
      have hs : ¬ L ≤ s' := fun z => by rw [h7, if_pos z] at c47; exact absurd c47 (by decide)
      rw [h7, if_neg hs] at c47
      exact ⟨rfl, s', a, co, k1, hco1, Or.inr ⟨by omega, c47⟩, h5⟩
    · by_cases c1 : r_X12_here (I_X12_here b L) L = -1
      · have ef : f_mrr1 L (nI 1, b) = .inr (nI 1, I_X12_here (I_X12_here b L) L) := by simp only [f_mrr1, if_neg n1, if_neg c47, if_pos c1]
        rw [tq_wx_x ef]
        right
        have hs : L ≤ s' := Classical.byContradiction (fun z => by
          rw [h7', if_neg z] at c1
          have hv := (tx.2.2.2 s' (by omega)).2
          rw [← k.2.1 112 (by decide) (by decide), c1] at hv
          exact absurd hv (by decide))
        exact ⟨rfl, s', a, co, k2, hco1, Or.inl (by omega), h5⟩
      · have ef : f_mrr1 L (nI 1, b) = .inl (r_X12_readsItem (I_X12_here (I_X12_here b L) L) L, I_X12_readsItem (I_X12_here (I_X12_here b L) L) L) := by simp only [f_mrr1, if_neg n1, if_neg c47, if_neg c1]
        rw [tq_wx_c ef]
        have hs : ¬ L ≤ s' := fun z => c1 (by rw [h7', if_pos z])
        have sh2 : tr_skI (I_X12_here (I_X12_here b L) L) L = s' := by
          rw [tw_skh (by omega), es']
          right; rw [es', hT1 _ (by omega)]; exact h6 (by omega)
        rcases tw_item tx k2 (Or.inr ⟨by omega, by rw [sh2]; rw [h7, if_neg hs] at c47; exact c47⟩) with ⟨q1, z, a', q2, q3, q4⟩ | ⟨q1, q, a', co', q2, q3, q4, q5⟩
        · rw [q1, tw_wx0]
          dsimp only
          exact Or.inl ⟨rfl, z, a', q2, q3, h5 _ q4⟩
        · rw [q1]
          rcases tw_rowl tx n q a' _ co' q2 q4 (by omega) with ⟨g1, z, a2, g2, g3, g4⟩ | ⟨g1, q', a2, co2, g2, g3, g4, g5⟩
          · exact Or.inl ⟨g1, z, a2, g2, g3, h5 _ (q5 _ g4)⟩
          · exact Or.inr ⟨g1, q', a2, co2, g2, g3, g4, fun r kr => h5 _ (q5 _ (g5 r kr))⟩
end TWQ
def tw_UU (H : tq_I) (f : Nat) (X : Int32) (ro d : Nat) : tq_I := tq_u (tq_u (tq_u (tq_u H 117 24 (nI f)) 117 21 X) 117 22 (nI (ro + 1))) 117 19 (H 117 19 + nI d)
theorem tw_le0 {ro : Nat} (h : ro ≤ 20) : (nI ro ≤ 0) ↔ ro = 0 := by
  rw [Int32.le_iff_toInt_le, nI_toInt (by omega), Int32.toInt_zero]
  omega
/-- the end of a row, by what stands there -/
theorem tw_rowE {b : tq_I} {L ro co wd : Nat} (hS : ¬ (tr_rwS b L).1 = 0) (e22 : I_X12_here (tr_rwS b L).2 L 117 22 = nI ro) (hro : ro ≤ 10) (e23 : I_X12_here (tr_rwS b L).2 L 117 23 = nI co) (hco : co ≤ 11) (e21 : ro ≠ 0 → I_X12_here (tr_rwS b L).2 L 117 21 = nI wd ∧ wd ≤ 11) : (r_X12_here (tr_rwS b L).2 L = -1 → ((ro ≠ 0 ∧ co = wd) → r_X12_readsRow b L = nI 0 ∧ I_X12_readsRow b L = tw_UU (I_X12_here (tr_rwS b L).2 L) 1 (nI wd) ro 0) ∧ (¬ (ro ≠ 0 ∧ co = wd) → r_X12_readsRow b L = nI 0 ∧ ∃ X, I_X12_readsRow b L = tw_UU (I_X12_here (tr_rwS b L).2 L) 0 X ro 0)) ∧ (¬ r_X12_here (tr_rwS b L).2 L = -1 → ((if ro = 0 then 2 ≤ co else co = wd ∧ ro < 10) → r_X12_readsRow b L = nI 1 ∧ I_X12_readsRow b L = tw_UU (I_X12_here (tr_rwS b L).2 L) 1 (nI co) ro 1) ∧ (¬ (if ro = 0 then 2 ≤ co else co = wd ∧ ro < 10) → r_X12_readsRow b L = nI 0 ∧ ∃ X, I_X12_readsRow b L = tw_UU (I_X12_here (tr_rwS b L).2 L) 0 X ro 0)) := by
  unfold r_X12_readsRow I_X12_readsRow tw_UU
  rw [if_neg hS, if_neg hS]
  generalize I_X12_here (tr_rwS b L).2 L = H at *
  generalize r_X12_here (tr_rwS b L).2 L = c at *
  rw [e22, e23, nI_add]
  by_cases c0 : ro = 0
  · have cz : nI ro = 0 := (tw_z1 (by omega)).mpr c0
    have cl : nI ro ≤ 0 := (tw_le0 (by omega)).mpr c0
    have cn : ¬ nI 10 ≤ nI ro := fun z => by rw [nI_leI (by omega) (by omega)] at z; omega
    rw [if_pos cz, if_pos cz, if_pos cz, if_pos cz, if_pos c0]
    refine ⟨fun hc => ⟨fun g => absurd c0 g.1, fun g => ?_⟩, fun hc => ⟨fun g => ?_, fun g => ?_⟩⟩
    · rw [if_pos hc, if_pos hc]
      by_cases c1 : nI co ≤ nI 1
      · rw [if_pos c1, if_pos c1]; exact ⟨rfl, _, rfl⟩
      · rw [if_neg c1, if_neg c1, if_pos cl, if_pos cl]; exact ⟨rfl, _, rfl⟩
    · have c1 : ¬ nI co ≤ nI 1 := fun z => by rw [nI_leI (by omega) (by omega)] at z; omega
      rw [if_neg hc, if_neg hc, if_neg c1, if_neg c1, if_neg cn, if_neg cn]; exact ⟨rfl, rfl⟩
    · have c1 : nI co ≤ nI 1 := (nI_leI (by omega) (by omega)).mpr (by omega)
      rw [if_neg hc, if_neg hc, if_pos c1, if_pos c1]; exact ⟨rfl, _, rfl⟩
  · have cz : ¬ nI ro = 0 := fun z => c0 ((tw_z1 (by omega)).mp z)
    have cl : ¬ nI ro ≤ 0 := fun z => c0 ((tw_le0 (by omega)).mp z)
    have w11 := (e21 c0).2
    have ce : (nI co = nI wd) ↔ co = wd := nI_eq (by omega) (by omega)
    have ct : (nI 10 ≤ nI ro) ↔ 10 ≤ ro := nI_leI (by omega) (by omega)
    rw [if_neg cz, if_neg cz, if_neg cz, if_neg cz, if_neg c0, (e21 c0).1]
    refine ⟨fun hc => ⟨fun g => ?_, fun g => ?_⟩, fun hc => ⟨fun g => ?_, fun g => ?_⟩⟩
    · rw [if_pos hc, if_pos hc, if_pos (ce.mpr g.2), if_pos (ce.mpr g.2), if_neg cl, if_neg cl]; exact ⟨rfl, rfl⟩
    · have c1 : ¬ nI co = nI wd := fun z => g ⟨c0, ce.mp z⟩
      rw [if_pos hc, if_pos hc, if_neg c1, if_neg c1]; exact ⟨rfl, _, rfl⟩
    · have c2 : ¬ nI 10 ≤ nI ro := fun z => by have := ct.mp z; omega
      rw [if_neg hc, if_neg hc, if_pos (ce.mpr g.1), if_pos (ce.mpr g.1), if_neg c2, if_neg c2, g.1]; exact ⟨rfl, rfl⟩
    · by_cases c1 : nI co = nI wd
      · have c2 : nI 10 ≤ nI ro := ct.mpr (by have := ce.mp c1; omega)
        rw [if_neg hc, if_neg hc, if_pos c1, if_pos c1, if_pos c2, if_pos c2]; exact ⟨rfl, _, rfl⟩
      · rw [if_neg hc, if_neg hc, if_neg c1, if_neg c1]; exact ⟨rfl, _, rfl⟩
theorem tw_whl {a : tq_I} {ro co wd : Nat} (h1 : a 115 1 = nI ro) (hro : ro ≤ 10) (h2 : a 115 2 = nI co) (hco : co ≤ 11) (h3 : ro ≠ 0 → a 115 3 = nI wd ∧ wd ≤ 11) : ((if ro = 0 then 2 ≤ co else co = wd) → ¬ r_X4_isRowWhole a = 0) ∧ (¬ (if ro = 0 then 2 ≤ co else co = wd) → r_X4_isRowWhole a = 0) := by
  unfold r_X4_isRowWhole
  rw [h1, h2]
  by_cases c : ro = 0
  · rw [if_pos ((tw_z1 (by omega)).mpr c), if_pos c]
    have ct : (nI co < nI 2) ↔ co < 2 := by rw [Int32.lt_iff_toInt_lt, nI_toInt (by omega), nI_toInt (by omega)]; omega
    refine ⟨fun g => ?_, fun g => ?_⟩
    · rw [if_neg (fun z => by have := ct.mp z; omega)]; decide
    · rw [if_pos (ct.mpr (by omega))]; decide
  · have h3' := h3 c
    rw [if_neg (fun z => c ((tw_z1 (by omega)).mp z)), h3'.1, if_neg c]
    have ce : (nI co = nI wd) ↔ co = wd := nI_eq (by omega) (by omega)
    refine ⟨fun g => ?_, fun g => ?_⟩
    · rw [if_pos (ce.mpr g)]; decide
    · rw [if_neg (fun z => g (ce.mp z))]; decide
section TWQ2
variable {A B a b : tq_I} {L p ro co wd : Nat}
/-- all of a row -/
theorem tw_rowT (tx : tw_txt A B L) (k : tw_sim A B L p a (tq_u b 117 23 (nI 0)) ro 0 wd) : (r_X12_readsRow b L = nI 0 ∧ I_X12_readsRow b L 117 24 = nI 0 ∧ ∃ z a', z ≤ L ∧ I_X12_readsRow b L 117 19 = nI z ∧ tw_rn L p a (nI z, a')) ∨ (r_X12_readsRow b L = nI 0 ∧ I_X12_readsRow b L 117 24 = nI 1 ∧ ∃ a', tw_rn L p a (-1, a') ∧ 1 ≤ ro ∧ 2 ≤ wd ∧ wd ≤ 11 ∧ a' 115 1 = nI ro ∧ a' 115 3 = nI wd ∧ I_X12_readsRow b L 117 21 = nI wd ∧ I_X12_readsRow b L 117 22 = nI (ro + 1) ∧ ∀ x y, x < wd → y ≤ ro → a' 116 (y * 11 + x) = I_X12_readsRow b L 130 (y * 11 + x)) ∨ (r_X12_readsRow b L = nI 1 ∧ ∃ q a' wd', tw_sim A B L q a' (tq_u (I_X12_readsRow b L) 117 23 (nI 0)) (ro + 1) 0 wd' ∧ ∀ r, tw_rn L q a' r → tw_rn L p a r) := by
  have hL5 := tx.2.2.1
  have key : ((tr_rwS b L).1 = nI 0 ∧ ∃ z a', z ≤ L ∧ (tr_rwS b L).2 117 19 = nI z ∧ tw_rn L p a (nI z, a')) ∨ ((tr_rwS b L).1 = nI 1 ∧ ∃ q a' co', tw_sim A B L q a' (tr_rwS b L).2 ro co' wd ∧ 1 ≤ co' ∧ (q = L ∨ (q < L ∧ a' 112 q = nI 47)) ∧ ∀ r, tw_rn L q a' r → tw_rn L p a r) := by
    unfold tr_rwS
    rcases tw_item tx k (Or.inl rfl) with ⟨q1, z, a', q2, q3, q4⟩ | ⟨q1, q, a', co', q2, q3, q4, q5⟩
    · rw [q1, tw_wx0]
      dsimp only
      exact Or.inl ⟨rfl, z, a', q2, q3, q4⟩
    · rw [q1]
      rcases tw_rowl tx (L + 1) q a' _ co' q2 q4 (by omega) with ⟨g1, z, a2, g2, g3, g4⟩ | ⟨g1, q', a2, co2, g2, g3, g4, g5⟩
      · exact Or.inl ⟨g1, z, a2, g2, g3, q5 _ g4⟩
      · exact Or.inr ⟨g1, q', a2, co2, g2, g3, g4, fun r kr => q5 _ (g5 r kr)⟩
  rcases key with ⟨q1, z, a', q2, q3, q4⟩ | ⟨q1, q, a', co, k1, hco1, hq, hrun⟩
  · left
    have h0 : (tr_rwS b L).1 = 0 := q1.trans (by decide)
    unfold r_X12_readsRow I_X12_readsRow
    rw [if_pos h0, if_pos h0]
    exact ⟨rfl, tq_u_same, z, a', q2, by rw [tq_u_slot (by decide)]; exact q3, q4⟩
  · have hS : ¬ (tr_rwS b L).1 = 0 := by rw [q1]; decide
    have hL : a' 111 1 = nI L := by rw [k1.2.1 111 (by decide) (by decide)]; exact tx.1
    have hT : ∀ j, j < L → (tr_rwS b L).2 119 j = a' 112 j := fun j hj => by rw [k1.2.2.1 119 (by decide) (by decide), k1.2.1 112 (by decide) (by decide)]; exact (tx.2.2.2 j hj).1.symm
    obtain ⟨s, es, h1, h2, h5, h6, h7⟩ := tw_here hL hL5 k1.1 k1.2.2.2.1.1 k1.2.2.2.1.2 hT
    have hsq : s = q := by
      rw [← es]
      unfold tr_skI
      rw [k1.2.2.2.1.2, tq_N_nI (by have := k1.1; omega)]
      exact tw_sk0 _ (hq.imp (fun z => by omega) (fun z => by rw [hT _ z.1, z.2]; decide))
    subst hsq
    have k2 := k1.here (by omega)
    rw [es] at k2
    obtain ⟨hpL, kA, kB, ⟨b3, b19⟩, ⟨a1, b22, hro⟩, ⟨a2, b23, hco⟩, a4, kw, kt⟩ := k2
    obtain ⟨r1, r2⟩ := tw_rowE (wd := wd) hS b22 hro b23 hco (fun z => ⟨(kw z).2.1, (kw z).2.2.2⟩)
    obtain ⟨w1, w2⟩ := tw_whl a1 hro a2 hco (fun z => ⟨(kw z).1, (kw z).2.2.2⟩)
    have z4 : a' 115 4 = 0 := a4.trans (by decide)
    generalize I_X12_here (tr_rwS b L).2 L = H at *
    have u24 : ∀ f X d, tw_UU H f X ro d 117 24 = nI f := fun f X d => by unfold tw_UU; rw [tq_u_slot (by decide), tq_u_slot (by decide), tq_u_slot (by decide), tq_u_same]
    have u21 : ∀ f X d, tw_UU H f X ro d 117 21 = X := fun f X d => by unfold tw_UU; rw [tq_u_slot (by decide), tq_u_slot (by decide), tq_u_same]
    have u22 : ∀ f X d, tw_UU H f X ro d 117 22 = nI (ro + 1) := fun f X d => by unfold tw_UU; rw [tq_u_slot (by decide), tq_u_same]
    have u19 : ∀ f X d, tw_UU H f X ro d 117 19 = nI (s + d) := fun f X d => by unfold tw_UU; rw [tq_u_same, b19, nI_add]
    have u3 : ∀ f X d, tw_UU H f X ro d 117 3 = nI L := fun f X d => by unfold tw_UU; rw [tq_u_slot (by decide), tq_u_slot (by decide), tq_u_slot (by decide), tq_u_slot (by decide)]; exact b3
    have uo : ∀ f X d cz, cz ≠ 117 → ∀ j, tw_UU H f X ro d cz j = H cz j := fun f X d cz hz j => by unfold tw_UU; rw [tq_u_cell hz, tq_u_cell hz, tq_u_cell hz, tq_u_cell hz]
    by_cases hend : L ≤ s
    · have e2 : s = L := by omega
      obtain ⟨r3, r4⟩ := r1 (by rw [h7, if_pos hend])
      by_cases g : ro ≠ 0 ∧ co = wd
      · right; left
        obtain ⟨p1, p2⟩ := r3 g
        have nl : ¬ a' 115 1 ≤ 0 := by rw [a1]; exact fun z => g.1 ((tw_le0 (by omega)).mp z)
        have nw := w1 (by rw [if_neg g.1]; exact g.2)
        have ed : d_fo1 L (nI L, a') = (-1, a') := by
          unfold d_fo1
          rw [if_pos z4, if_neg nl, if_neg nw]
        refine ⟨p1, by rw [p2, u24], a', hrun _ ?_, by omega, (kw g.1).2.2.1, (kw g.1).2.2.2, a1, (kw g.1).1, by rw [p2, u21], by rw [p2, u22], fun x y hx hy => ?_⟩
        · rw [e2, ← ed]; exact tw_rn.en hL hL5
        · rw [p2, uo _ _ _ _ (by decide)]
          refine kt x y ?_
          by_cases c : y = ro
          · right; omega
          · left; omega
      · left
        obtain ⟨p1, X, p2⟩ := r4 g
        have ed : d_fo1 L (nI L, a') = (nI L, a') := by
          unfold d_fo1
          rw [if_pos z4]
          by_cases c : ro = 0
          · have nl : a' 115 1 ≤ 0 := by rw [a1]; exact (tw_le0 (by omega)).mpr c
            rw [if_pos nl]
            simp only [hL]
          · have nl : ¬ a' 115 1 ≤ 0 := by rw [a1]; exact fun z => c ((tw_le0 (by omega)).mp z)
            have nw := w2 (by rw [if_neg c]; exact fun z => g ⟨c, z⟩)
            rw [if_neg nl, if_pos nw]
            simp only [hL]
        refine ⟨p1, by rw [p2, u24], L, a', by omega, by rw [p2, u19, e2, Nat.add_zero], hrun _ ?_⟩
        rw [e2]
        have := tw_rn.en hL hL5
        rw [ed] at this
        exact this
    · have h47 : a' 112 s = nI 47 := by
        rcases hq with z | z
        · omega
        · exact z.2
      obtain ⟨r3, r4⟩ := r2 (by rw [h7, if_neg hend, h47]; decide)
      have n32 : ¬ a' 112 s = nI 32 := by rw [h47]; decide
      have nd : tq_b (tw_dg (a' 112 s)) = 0 := by rw [h47]; decide
      have eR : r_X4_accept a' s L = r_X4_acceptRowEnd a' := by
        unfold r_X4_accept
        rw [if_neg n32, if_pos nd, if_pos h47]
      have eI : I_X4_accept a' s L = I_X4_acceptRowEnd a' := by
        unfold I_X4_accept
        rw [if_neg n32, if_pos nd, if_pos h47]
      have e10 : (a' 115 1 < nI 10) ↔ ro < 10 := by rw [a1, Int32.lt_iff_toInt_lt, nI_toInt (by omega), nI_toInt (by omega)]; omega
      have ez : (a' 115 1 = 0) ↔ ro = 0 := by rw [a1]; exact tw_z1 (by omega)
      by_cases g : if ro = 0 then 2 ≤ co else co = wd ∧ ro < 10
      · right; right
        obtain ⟨p1, p2⟩ := r3 g
        have g1 : if ro = 0 then 2 ≤ co else co = wd := by
          by_cases c : ro = 0
          · rw [if_pos c] at g ⊢; exact g
          · rw [if_neg c] at g ⊢; exact g.1
        have g2 : ro < 10 := by
          by_cases c : ro = 0
          · omega
          · rw [if_neg c] at g; exact g.2
        have g3 : 2 ≤ co := by
          by_cases c : ro = 0
          · rw [if_pos c] at g; exact g
          · rw [if_neg c] at g; have := (kw c).2.2.1; omega
        have nw := w1 g1
        have aR : r_X4_accept a' s L = nI (0 + 1) := by
          rw [eR]
          unfold r_X4_acceptRowEnd
          rw [if_pos z4, if_neg nw, if_pos (e10.mpr g2), ite_self]
        have aI : ∃ a3, I_X4_accept a' s L = a3 ∧ (∀ cz, cz ≠ 115 → ∀ j, a3 cz j = a' cz j) ∧ a3 115 1 = nI (ro + 1) ∧ a3 115 2 = nI 0 ∧ a3 115 3 = nI co ∧ a3 115 4 = nI 0 := by
          rw [eI]
          unfold I_X4_acceptRowEnd
          rw [if_pos z4, if_neg nw, if_pos (e10.mpr g2)]
          by_cases c : ro = 0
          · rw [if_pos (ez.mpr c)]
            refine ⟨_, rfl, fun cz hz j => by rw [tq_u_cell hz, tq_u_cell hz, tq_u_cell hz], ?_, tq_u_same, ?_, ?_⟩
            · rw [tq_u_slot (by decide), tq_u_same, tq_u_slot (by decide), a1, nI_add]
            · rw [tq_u_slot (by decide), tq_u_slot (by decide), tq_u_same, a2]
            · rw [tq_u_slot (by decide), tq_u_slot (by decide), tq_u_slot (by decide)]; exact a4
          · rw [if_neg (fun z => c (ez.mp z))]
            rw [if_neg c] at g1
            refine ⟨_, rfl, fun cz hz j => by rw [tq_u_cell hz, tq_u_cell hz], ?_, tq_u_same, ?_, ?_⟩
            · rw [tq_u_slot (by decide), tq_u_same, a1, nI_add]
            · rw [tq_u_slot (by decide), tq_u_slot (by decide), (kw c).1, g1]
            · rw [tq_u_slot (by decide), tq_u_slot (by decide)]; exact a4
        obtain ⟨a3, e3, x1, x2, x3, x4, x5⟩ := aI
        refine ⟨p1, s + 1, a3, co, ?_, fun r kr => hrun r (tw_rn.go (tw_fog (k := 0) (by omega) hL hL5 aR (by decide) e3) (by omega) (by omega) kr)⟩
        rw [p2]
        refine ⟨by omega, fun cz z1 z2 j => by rw [x1 cz z1]; exact kA cz z1 z2 j, fun cz z1 z2 j => by rw [tq_u_cell z1, uo _ _ _ _ z1]; exact kB cz z1 z2 j, ⟨by rw [tq_u_slot (by decide), u3], by rw [tq_u_slot (by decide), u19]⟩, ⟨x2, by rw [tq_u_slot (by decide), u22], by omega⟩, ⟨x3, tq_u_same, by omega⟩, x5, fun _ => ⟨x4, by rw [tq_u_slot (by decide), u21], g3, hco⟩, fun x y hxy => ?_⟩
        rw [x1 116 (by decide), tq_u_cell (by decide), uo _ _ _ _ (by decide)]
        refine kt x y ?_
        by_cases c : y = ro
        · right; omega
        · left
          by_cases c0 : ro = 0
          · omega
          · rw [if_neg c0] at g1; omega
      · left
        obtain ⟨p1, X, p2⟩ := r4 g
        have aR : r_X4_accept a' s L = nI 0 := by
          rw [eR]
          unfold r_X4_acceptRowEnd
          rw [if_pos z4]
          by_cases g1 : if ro = 0 then 2 ≤ co else co = wd
          · have g2 : ¬ ro < 10 := fun z => g (by
              by_cases c : ro = 0
              · rw [if_pos c] at g1 ⊢; exact g1
              · rw [if_neg c] at g1 ⊢; exact ⟨g1, z⟩)
            rw [if_neg (w1 g1), if_neg (fun z => g2 (e10.mp z))]
          · rw [if_pos (w2 g1)]
        exact ⟨p1, by rw [p2, u24], s, _, by omega, by rw [p2, u19, Nat.add_zero], hrun _ (tw_rn.no (tw_fon (by omega) hL hL5 aR) (by omega))⟩
theorem tw_wh00 {m i : Nat} {b : tq_I} : tq_wh (f_mra2 L) m i (nI 0, b) = (nI 0, b) := by
  cases m with
  | zero => rfl
  | succ n => exact tq_wh_none (by simp only [f_mra2, if_pos (show nI 0 = 0 by decide)])
theorem tw_allR (tx : tw_txt A B L) : ∀ (m i p : Nat) (a b : tq_I) (ro wd : Nat), ro + m = 11 → tw_sim A B L p a (tq_u b 117 23 (nI 0)) ro 0 wd → ((tq_wh (f_mra2 L) m i (nI 1, b)).2 117 24 = nI 0 ∧ ∃ z a', z ≤ L ∧ (tq_wh (f_mra2 L) m i (nI 1, b)).2 117 19 = nI z ∧ tw_rn L p a (nI z, a')) ∨ ((tq_wh (f_mra2 L) m i (nI 1, b)).2 117 24 = nI 1 ∧ ∃ a' ro wd, tw_rn L p a (-1, a') ∧ 1 ≤ ro ∧ ro ≤ 10 ∧ 2 ≤ wd ∧ wd ≤ 11 ∧ a' 115 1 = nI ro ∧ a' 115 3 = nI wd ∧ (tq_wh (f_mra2 L) m i (nI 1, b)).2 117 21 = nI wd ∧ (tq_wh (f_mra2 L) m i (nI 1, b)).2 117 22 = nI (ro + 1) ∧ ∀ x y, x < wd → y ≤ ro → a' 116 (y * 11 + x) = (tq_wh (f_mra2 L) m i (nI 1, b)).2 130 (y * 11 + x))
  | 0, i, p, a, b, ro, wd, hm, k => by have := k.2.2.2.2.1.2.2; omega
  | m + 1, i, p, a, b, ro, wd, hm, k => by
    have ef : f_mra2 L i (nI 1, b) = some (r_X12_readsRow b L, I_X12_readsRow b L) := by simp only [f_mra2, if_neg (show ¬ nI 1 = 0 by decide)]
    rw [tq_wh_some ef]
    rcases tw_rowT tx k with ⟨q1, q2, q3⟩ | ⟨q1, q2, a', q3, q4, q5, q6, q7, q8, q9, q10, q11⟩ | ⟨q1, q, a', wd', q2, q3⟩
    · rw [q1, tw_wh00]
      dsimp only
      exact Or.inl ⟨q2, q3⟩
    · rw [q1, tw_wh00]
      dsimp only
      exact Or.inr ⟨q2, a', ro, wd, q3, q4, by omega, q5, q6, q7, q8, q9, q10, q11⟩
    · rw [q1]
      rcases tw_allR tx m (i + 1) q a' _ (ro + 1) wd' (by omega) q2 with ⟨g1, z, a2, g2, g3, g4⟩ | ⟨g1, a2, ro2, wd2, g2, g3⟩
      · exact Or.inl ⟨g1, z, a2, g2, g3, q3 _ g4⟩
      · exact Or.inr ⟨g1, a2, ro2, wd2, q3 _ g2, g3⟩
end TWQ2
