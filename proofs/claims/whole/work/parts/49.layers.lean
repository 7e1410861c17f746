/-! layers -/
theorem tw_isr {I : tq_I} {r0 r1 r2 r3 i : Nat} (h0 : I 103 0 = nI r0) (h1 : I 103 1 = nI r1) (h2 : I 103 2 = nI r2) (h3 : I 103 3 = nI r3) (g0 : r0 < 6) (g1 : r1 < 6) (g2 : r2 < 6) (g3 : r3 < 6) (hi : i < 6) : r_X7_isRankOfCorner I i = tr_hs i r0 r1 r2 r3 := by
  unfold r_X7_isRankOfCorner tr_hs
  simp (disch := omega) only [tq_sr, f_rk1, h0, h1, h2, h3, nI_eq, Nat.zero_add, Nat.reduceAdd]
  by_cases c0 : r0 = i
  · simp only [if_pos c0, c0, true_or, if_true]
  · by_cases c1 : r1 = i
    · simp only [if_neg c0, c1, true_or, or_true, if_true]
    · by_cases c2 : r2 = i
      · simp only [if_neg c0, if_neg c1, c2, true_or, or_true, if_true]
      · by_cases c3 : r3 = i
        · simp only [if_neg c0, if_neg c1, if_neg c2, c3, or_true, if_true]
        · simp only [if_neg c0, if_neg c1, if_neg c2, if_neg c3]
          rw [if_neg (by omega)]
theorem tw_mkf {I : tq_I} {r0 r1 r2 r3 i : Nat} (h0 : I 103 0 = nI r0) (h1 : I 103 1 = nI r1) (h2 : I 103 2 = nI r2) (h3 : I 103 3 = nI r3) (g0 : r0 < 6) (g1 : r1 < 6) (g2 : r2 < 6) (g3 : r3 < 6) (hi : i < 6) : r_X7_maskFrom I i = nI (tr_mm i r0 r1 r2 r3) := by
  show f_mf1 I i 3 (f_mf1 I i 2 (f_mf1 I i 1 (f_mf1 I i 0 (nI 0)))) = _
  have d : ∀ r, (i ≤ r) = ¬ (r < i) := fun r => propext (by omega)
  simp (disch := omega) only [f_mf1, h0, h1, h2, h3, nI_ltI, tr_mm, d]
  by_cases c0 : r0 < i <;> by_cases c1 : r1 < i <;> by_cases c2 : r2 < i <;> by_cases c3 : r3 < i <;> simp only [c0, c1, c2, c3, not_true, not_false_eq_true, if_true, if_false] <;> decide +kernel
/-- corners of a mask; the full one is drawn in one piece -/
def tw_pcn (m : Nat) : Nat := if m = 15 then 1 else m % 2 + m / 2 % 2 + m / 4 % 2 + m / 8 % 2
def tw_ps (f : Nat → Int32) : Nat → Nat
  | 0 => 0
  | n + 1 => tw_ps f n + tw_pcn (tq_N (f n))
theorem tw_ps_cong {f g : Nat → Int32} : ∀ n, (∀ q, q < n → g q = f q) → tw_ps g n = tw_ps f n
  | 0, _ => rfl
  | n + 1, h => by
    show tw_ps g n + _ = tw_ps f n + _
    rw [tw_ps_cong n (fun q hq => h q (by omega)), h n (by omega)]
theorem tw_ps_le {f : Nat → Int32} : ∀ n m, n ≤ m → tw_ps f n ≤ tw_ps f m
  | n, 0, h => by rw [show n = 0 by omega]; exact Nat.le_refl _
  | n, m + 1, h => by
    by_cases e : n = m + 1
    · rw [e]; exact Nat.le_refl _
    · exact Nat.le_trans (tw_ps_le n m (by omega)) (Nat.le_add_right _ _)
def tw_pS (a b c d : Nat) : Nat → Nat
  | 0 => 0
  | i + 1 => tw_pS a b c d i + (if a = i ∨ b = i ∨ c = i ∨ d = i then tw_pcn (tr_mm i a b c d) else 0)
set_option maxRecDepth 100000 in
theorem tw_pS7 : ∀ a, a < 6 → ∀ b, b < 6 → ∀ c, c < 6 → ∀ d, d < 6 → tw_pS a b c d 6 ≤ 7 := by decide +kernel
set_option maxRecDepth 100000 in
theorem tw_fnd_pc : ∀ b, b < 32 → ∀ m, m < 15 → (tw_fnd b (m + 1)).length ≤ tw_pcn (m + 1) := by decide +kernel
section TWL
variable {A B : tq_I} {w h o c L : Nat}
theorem tw_dl1 (k : tw_inv A B w h o c L) {x y : Nat} (hx : x < w) (hy : y < h) : (∀ cz, cz ≠ 103 → ∀ j, tq_it (f_dl1 x y) 4 0 A cz j = A cz j) ∧ ∀ q, q < 4 → tq_it (f_dl1 x y) 4 0 A 103 q = nI (tr_cr B x y q) := by
  refine tw_it0 (f := f_dl1 x y) (fun n (a : tq_I) => (∀ cz, cz ≠ 103 → ∀ j, a cz j = A cz j) ∧ ∀ q, q < n → a 103 q = nI (tr_cr B x y q)) 4 A ⟨fun _ _ _ => rfl, fun q hq => by omega⟩ ?_
  rintro n a hn ⟨h1, h2⟩
  unfold f_dl1
  refine ⟨fun cz hz j => by rw [tq_u_cell hz]; exact h1 cz hz j, fun q hq => ?_⟩
  by_cases e : q = n
  · subst e
    rw [tq_u_same, h1 6 (by decide), h1 3 (by decide)]
    have hw := k.w1
    have hT := k.Tr (j := (y + q / 2) * 11 + (x + q % 2)) (by omega)
    rw [← k.T (x := x + q % 2) (y := y + q / 2) (by omega) (by omega)] at hT
    rw [k.rk (t := tq_N (A 3 ((y + q / 2) * 11 + (x + q % 2)))) (by unfold tq_N; omega), ← tq_nIN hT.1]
    unfold tr_cr
    rw [k.T (x := x + q % 2) (y := y + q / 2) (by omega) (by omega)]
    exact congrArg (fun z => nI (tr_rk B z)) (tw_ix (f := B 118) (by omega))
  · rw [tq_u_slot e]
    exact h2 q (by omega)
/-- the layers of both sides -/
theorem tw_lyr (k : tw_inv A B w h o c L) {x y : Nat} (hx : x < w) (hy : y < h) : ∃ n, n ≤ 4 ∧ I_X7_drawLayers A x y 102 3 = nI n ∧ I_X12_findsLayers B x y w h 117 13 = nI n ∧ tw_ps (I_X7_drawLayers A x y 105) n ≤ 7 ∧ ∀ q, q < n → I_X7_drawLayers A x y 104 q = I_X12_findsLayers B x y w h 125 q ∧ I_X7_drawLayers A x y 105 q = I_X12_findsLayers B x y w h 126 q := by
  obtain ⟨d1, d2⟩ := tw_dl1 k hx hy
  unfold I_X7_drawLayers I_X12_findsLayers
  generalize hA1 : tq_it (f_dl1 x y) 4 0 A = A1 at *
  have g := fun q => tr_cr5 B x y q
  have key := tw_it20 (f := f_dl2 x y) (g := f_mfy2 x y w h) (fun i (a b : tq_I) => (∀ cz, cz ≠ 102 → cz ≠ 104 → cz ≠ 105 → ∀ j, a cz j = A1 cz j) ∧ (∀ j, b 118 j = B 118 j) ∧ a 102 3 = nI (tr_lcI B x y i) ∧ b 117 13 = nI (tr_lcI B x y i) ∧ tr_lcI B x y i ≤ 4 ∧ tw_ps (a 105) (tr_lcI B x y i) = tw_pS (tr_cr B x y 0) (tr_cr B x y 1) (tr_cr B x y 2) (tr_cr B x y 3) i ∧ ∀ q, q < tr_lcI B x y i → a 104 q = b 125 q ∧ a 105 q = b 126 q) 6 (tq_u A1 102 3 (nI 0)) (tq_u B 117 13 (nI 0)) ⟨fun cz h1 _ _ j => tq_u_cell h1, fun j => tq_u_cell (by decide), tq_u_same, tq_u_same, Nat.zero_le _, rfl, fun q hq => absurd hq (Nat.not_lt_zero q)⟩ (fun i a b hi hP => by
    obtain ⟨p1, p2, p3, p4, p5, p6, p7⟩ := hP
    have a103 : ∀ q, q < 4 → a 103 q = nI (tr_cr B x y q) := fun q hq => by rw [p1 103 (by decide) (by decide) (by decide)]; exact d2 q hq
    have eR := tw_isr (I := a) (i := i) (a103 0 (by decide)) (a103 1 (by decide)) (a103 2 (by decide)) (a103 3 (by decide)) (g 0) (g 1) (g 2) (g 3) hi
    have eH : tr_hsI b x y i = tr_hs i (tr_cr B x y 0) (tr_cr B x y 1) (tr_cr B x y 2) (tr_cr B x y 3) := by unfold tr_hsI; rw [tr_cr_cong p2, tr_cr_cong p2, tr_cr_cong p2, tr_cr_cong p2]
    have eHB : tr_hsI B x y i = tr_hs i (tr_cr B x y 0) (tr_cr B x y 1) (tr_cr B x y 2) (tr_cr B x y 3) := rfl
    unfold f_dl2 f_mfy2
    rw [eR, eH]
    by_cases hz : tr_hs i (tr_cr B x y 0) (tr_cr B x y 1) (tr_cr B x y 2) (tr_cr B x y 3) = 0
    · rw [if_pos hz, if_pos hz, tr_hsI0 (eHB.trans hz)]
      refine ⟨p1, p2, p3, p4, p5, ?_, p7⟩
      rw [p6]
      have hn : ¬ (tr_cr B x y 0 = i ∨ tr_cr B x y 1 = i ∨ tr_cr B x y 2 = i ∨ tr_cr B x y 3 = i) := fun q => by
        unfold tr_hs at hz
        rw [if_pos q] at hz
        exact absurd hz (by decide)
      show _ = tw_pS _ _ _ _ i + _
      rw [if_neg hn]
      rfl
    · obtain ⟨l1, l2⟩ := tr_hsI1 (I := B) (x := x) (y := y) (r := i) (fun q => hz (eHB.symm.trans q))
      have l3 := l2 hi
      have hn : tr_cr B x y 0 = i ∨ tr_cr B x y 1 = i ∨ tr_cr B x y 2 = i ∨ tr_cr B x y 3 = i := Classical.byContradiction fun q => hz (by unfold tr_hs; rw [if_neg q]; decide)
      rw [if_neg hz, if_neg hz, l1, p3, if_neg (fun q => by rw [nI_leI (by omega) (by omega)] at q; omega), tq_N_nI (by omega)]
      have a103' : ∀ q, q < 4 → tq_u a 104 (tr_lcI B x y i) (a 7 i) 103 q = nI (tr_cr B x y q) := fun q hq => by rw [tq_u_cell (by decide)]; exact a103 q hq
      have eM := tw_mkf (i := i) (a103' 0 (by decide)) (a103' 1 (by decide)) (a103' 2 (by decide)) (a103' 3 (by decide)) (g 0) (g 1) (g 2) (g 3) hi
      rw [eM]
      have e7 : a 7 i = b 118 (4 + i) := by rw [p1 7 (by decide) (by decide) (by decide), p2, d1 7 (by decide)]; exact (k.r7 hi).1
      have eB : tr_put b x y i = tq_u (tq_u (tq_u b 125 (tr_lcI B x y i) (b 118 (4 + i))) 126 (tr_lcI B x y i) (nI (tr_mm i (tr_cr B x y 0) (tr_cr B x y 1) (tr_cr B x y 2) (tr_cr B x y 3)))) 117 13 (nI (tr_lcI B x y i + 1)) := by
        unfold tr_put tr_mmI
        rw [tr_lcIc p2, tr_cr_cong p2, tr_cr_cong p2, tr_cr_cong p2, tr_cr_cong p2]
      rw [eB]
      generalize tr_lcI B x y i = n at *
      have hmm := tr_mm15 i (tr_cr B x y 0) (tr_cr B x y 1) (tr_cr B x y 2) (tr_cr B x y 3)
      generalize hM : tr_mm i (tr_cr B x y 0) (tr_cr B x y 1) (tr_cr B x y 2) (tr_cr B x y 3) = M at *
      refine ⟨fun cz h1 h2 h3 j => by rw [tq_u_cell h1, tq_u_cell h3, tq_u_cell h2]; exact p1 cz h1 h2 h3 j, fun j => by rw [tq_u_cell (by decide), tq_u_cell (by decide), tq_u_cell (by decide)]; exact p2 j, ?_, tq_u_same, by omega, ?_, fun q hq => ?_⟩
      · rw [tq_u_same, tq_u_cell (by decide), tq_u_cell (by decide), p3, nI_add]
      · show tw_ps _ n + _ = tw_pS _ _ _ _ i + _
        rw [if_pos hn, hM, tw_ps_cong (f := a 105) n (fun q hq => by rw [tq_u_cell (by decide), tq_u_slot (by omega), tq_u_cell (by decide)]), p6, tq_u_cell (by decide), tq_u_same, tq_N_nI (by omega)]
      · by_cases e : q = n
        · rw [e]
          exact ⟨by rw [tq_u_cell (by decide), tq_u_cell (by decide), tq_u_same, tq_u_cell (by decide), tq_u_cell (by decide), tq_u_same]; exact e7, by rw [tq_u_cell (by decide), tq_u_same, tq_u_cell (by decide), tq_u_same]⟩
        · obtain ⟨z1, z2⟩ := p7 q (by omega)
          exact ⟨by rw [tq_u_cell (by decide), tq_u_cell (by decide), tq_u_slot e, tq_u_cell (by decide), tq_u_cell (by decide), tq_u_slot e]; exact z1, by rw [tq_u_cell (by decide), tq_u_slot e, tq_u_cell (by decide), tq_u_cell (by decide), tq_u_slot e, tq_u_cell (by decide)]; exact z2⟩)
  obtain ⟨p1, p2, p3, p4, p5, p6, p7⟩ := key
  exact ⟨_, p5, p3, p4, by rw [p6]; exact tw_pS7 _ (g 0) _ (g 1) _ (g 2) _ (g 3), p7⟩
end TWL
