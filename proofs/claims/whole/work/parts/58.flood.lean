/-! regions, flood -/
section TWF
variable {A B A' B' : tq_I} {w h o c L : Nat}
theorem tw_inv.rgn (k : tw_inv A B w h o c L) (hA : ∀ cz, cz ≠ 99 → cz ≠ 100 → cz ≠ 101 → ∀ j, A' cz j = A cz j) (hB : ∀ cz, cz ≠ 121 → ∀ j, B' cz j = B cz j) (hr : tq_rg A') : tw_inv A' B' w h o c L := by
  refine k.scr (fun cz hz j => hA cz (by omega) (by omega) (by omega) j) (fun cz hz j => hB cz (by omega) j) ⟨hB _ (by decide) _, hB _ (by decide) _, hB _ (by decide) _⟩ ?_
  obtain ⟨m1, m2, m3, m4, m5, m6⟩ := k.mi
  refine ⟨⟨hr.1, hr.2.1, hr.2.2.1⟩, fun j hj => ?_, ?_, ?_, fun j hj => ?_, fun j hj => ?_⟩
  · rw [hA 116 (by decide) (by decide) (by decide)]; exact m2 j hj
  · rw [hB 117 (by decide)]; exact m3
  · rw [hB 117 (by decide)]; exact m4
  · rw [hB 130 (by decide)]; exact m5 j hj
  · rw [hB 122 (by decide), hB 123 (by decide)]; exact m6 j hj
theorem tw_forgA (I : tq_I) (j : Nat) (hj : j < 121) : I_X5_forget I 100 j = nI 0 := by
  have := (tw_fill0 (f := f_fgt1) (cc := 100) (b := 0) (v := nI 0) (fun i a => by unfold f_fgt1; rw [Nat.zero_add]) 121 I).2 j
  rw [if_pos (by omega)] at this
  exact this
theorem tw_forgB (I : tq_I) (j : Nat) (hj : j < 121) : I_X12_forgets I 121 j = nI 0 := by
  have := (tw_fill0 (f := f_fg1) (cc := 121) (b := 0) (v := nI 0) (fun i a => by unfold f_fg1; rw [Nat.zero_add]) 121 I).2 j
  rw [if_pos (by omega)] at this
  exact this
/-- the corners of a terrain -/
def tw_TT (B : tq_I) (w h : Nat) (t : Int32) (k : Nat) : Prop := k < 121 ∧ k % 11 ≤ w ∧ k / 11 ≤ h ∧ B 118 (22 + k) = t
theorem tw_inv.TA (k : tw_inv A B w h o c L) (t : Int32) (q : Nat) : tw_TT B w h t q ↔ q < 121 ∧ q % 11 ≤ w ∧ q / 11 ≤ h ∧ A 3 q = t := by
  unfold tw_TT
  constructor
  · rintro ⟨h1, h2, h3, h4⟩
    refine ⟨h1, h2, h3, ?_⟩
    have := k.T h2 h3
    rw [show q / 11 * 11 + q % 11 = q by omega] at this
    rw [this]; exact h4
  · rintro ⟨h1, h2, h3, h4⟩
    refine ⟨h1, h2, h3, ?_⟩
    have := k.T h2 h3
    rw [show q / 11 * 11 + q % 11 = q by omega] at this
    rw [← this]; exact h4
/-- the same corners are met -/
def tw_mt (a b : tq_I) (T : Nat → Prop) : Prop := (∀ k, (k < 121 ∧ a 100 k = nI 1) ↔ tw_M b k) ∧ (∀ k, tw_M b k → T k) ∧ tw_clo T b
theorem tw_find (k : tw_inv A B w h o c L) {x y : Nat} (hx : x ≤ w) (hy : y ≤ h) (m : tw_mt A B (tw_TT B w h (B 118 (22 + 11 * y + x)))) : tw_inv (I_X5_gather A x y) (I_X12_reaches B x y w h) w h o c L ∧ tw_mt (I_X5_gather A x y) (I_X12_reaches B x y w h) (tw_TT B w h (B 118 (22 + 11 * y + x))) ∧ ∃ n, tw_G (tw_TT B w h (B 118 (22 + 11 * y + x))) (fun k => k < 121 ∧ A 100 k = nI 1) (y * 11 + x) A (I_X5_gather A x y) n := by
  have hw := k.w1
  have e3 : A 3 (y * 11 + x) = B 118 (22 + 11 * y + x) := by rw [k.T hx hy]; exact tw_ix (f := B 118) (by omega)
  obtain ⟨m1, m2, m3⟩ := m
  obtain ⟨p1, p2⟩ := tw_gather (T := tw_TT B w h (B 118 (22 + 11 * y + x))) k.D.1 k.D.2 hw.2.1 hw.2.2.2 hx hy (fun q => by rw [e3]; exact k.TA _ q) (fun q hq => m2 q ((m1 q).mp hq)) (fun q l hq hql hl => (m1 l).mpr (m3 q l ((m1 q).mp hq) hql hl))
  have q1 := tw_reaches (T := tw_TT B w h (B 118 (22 + 11 * y + x))) k.twh hx hy (fun q => Iff.rfl) m2
  have es : (fun q => q < 121 ∧ A 100 q = nI 1) = tw_M B := funext fun q => propext (m1 q)
  rw [es] at p1
  refine ⟨k.rgn (fun cz z1 z2 z3 j => fr_X5_gather _ _ _ ⟨z1, z2, z3⟩ j) (fun cz hz j => fr_X12_reaches _ _ _ _ _ hz j) (tq_rg_gather k.ok.rg), ⟨fun q => p1.uniq q1 q, q1.2.1, q1.1.2.2⟩, p2⟩
theorem tw_forg (k : tw_inv A B w h o c L) (T : Nat → Prop) : tw_inv (I_X5_forget A) (I_X12_forgets B) w h o c L ∧ tw_mt (I_X5_forget A) (I_X12_forgets B) T := by
  have n0 : ∀ q, ¬ tw_M (I_X12_forgets B) q := fun q hq => hq.2 (by rw [tw_forgB _ q hq.1]; decide)
  have n1 : ∀ q, ¬ (q < 121 ∧ I_X5_forget A 100 q = nI 1) := fun q hq => by
    have := hq.2
    rw [tw_forgA _ q hq.1] at this
    exact absurd this (by decide)
  refine ⟨k.rgn (fun cz z1 z2 z3 j => fr_X5_forget _ z2 j) (fun cz hz j => fr_X12_forgets _ hz j) ?_, fun q => ⟨fun z => absurd z (n1 q), fun z => absurd z (n0 q)⟩, fun q hq => absurd hq (n0 q), fun q l hq => absurd hq (n0 q)⟩
  have := k.ok.rg
  unfold tq_rg at *
  simp only [fr_X5_forget A (show (101 : Nat) ≠ 100 by decide), fr_X5_forget A (show (99 : Nat) ≠ 100 by decide), fr_X5_forget A (show (2 : Nat) ≠ 100 by decide)]
  exact this
theorem tw_regions (k : tw_inv A B w h o c L) (t : Int32) (s : Nat) : r_X11_regions A t w h o c L = r_X12_regions B t w h s ∧ tw_inv (I_X11_regions A t w h o c L) (I_X12_regions B t w h s) w h o c L := by
  have hw := k.w1
  unfold r_X11_regions r_X12_regions I_X11_regions I_X12_regions
  split
  · exact ⟨rfl, k⟩
  · obtain ⟨k1, m1⟩ := tw_forg k (tw_TT B w h t)
    have fB : ∀ j, I_X12_forgets B 118 j = B 118 j := fun j => fr_X12_forgets B (show (118 : Nat) ≠ 121 by decide) j
    have key := tw_nest (F := fun q => f_rg1 t q w h o c L) (F2 := f_rg2 t w h o c L) (G := f_mrg1 t w h) (fun _ (a : Int32 × tq_I) (b : Int32 × tq_I) => a.1 = b.1 ∧ tw_inv a.2 b.2 w h o c L ∧ tw_mt a.2 b.2 (tw_TT B w h t) ∧ ∀ j, b.2 118 j = B 118 j) (W := 11) (H := 11) (w := w + 1) (h := h + 1) (by omega) (by omega) (fun q a => rfl) (fun x y a b hx hy hab => by
        obtain ⟨e, q, m, f⟩ := hab
        have hc : ¬ tq_b (tr_corner b.2 (nI ((y * 11 + x) % 11)) (nI ((y * 11 + x) / 11))) = 0 := fun z => tq_b0.mp z (q.twh.corner.mpr (by rw [nI_toInt (by omega), nI_toInt (by omega)]; omega))
        have e3 : b.2 118 (22 + 11 * y + x) = a.2 3 (y * 11 + x) := by rw [q.T (x := x) (y := y) (by omega) (by omega)]; exact tw_ix (f := b.2 118) (by omega)
        have em := m.1 (y * 11 + x)
        have fT : tw_TT b.2 w h t = tw_TT B w h t := by funext z; unfold tw_TT; rw [f]
        unfold f_rg1 f_mrg1
        rw [if_neg hc, show (y * 11 + x) % 11 = x by omega, show (y * 11 + x) / 11 = y by omega, e3, tq_N_nI (by omega), tq_N_nI (by omega)]
        by_cases c1 : a.2 3 (y * 11 + x) = t
        · rw [if_pos c1, if_pos c1]
          by_cases c2 : a.2 100 (y * 11 + x) = nI 1
          · have c3 : ¬ b.2 121 (y * 11 + x) = 0 := (em.mp ⟨by omega, c2⟩).2
            rw [if_neg (fun z => tq_b0.mp z c2), if_neg c3]
            exact ⟨e, q, m, f⟩
          · have c3 : b.2 121 (y * 11 + x) = 0 := Classical.byContradiction (fun z => c2 (em.mpr ⟨by omega, z⟩).2)
            rw [if_pos (tq_b0.mpr c2), if_pos c3]
            have et : b.2 118 (22 + 11 * y + x) = t := e3.trans c1
            obtain ⟨z1, z2, -⟩ := tw_find q (x := x) (y := y) (by omega) (by omega) (by rw [et, fT]; exact m)
            rw [et, fT] at z2
            dsimp only
            exact ⟨by rw [e], z1, z2, fun j => by rw [← f j]; exact fr_X12_reaches _ _ _ _ _ (by decide) j⟩
        · rw [if_neg c1, if_neg c1, ite_self]
          exact ⟨e, q, m, f⟩) (fun x y a b hx hy hn hab => by
        have hc : tq_b (tr_corner b.2 (nI ((y * 11 + x) % 11)) (nI ((y * 11 + x) / 11))) = 0 := tq_b0.mpr (fun z => by
          have := hab.2.1.twh.corner.mp z
          rw [nI_toInt (by omega), nI_toInt (by omega)] at this
          omega)
        unfold f_mrg1
        rw [if_pos hc]
        exact hab) (a := (nI 0, I_X5_forget A)) (b := (nI 0, I_X12_forgets B)) (by dsimp only; exact ⟨rfl, k1, m1, fB⟩)
    exact ⟨key.1, key.2.1⟩
end TWF
/-! flood: the order in which the corners come makes no difference -/
def tw_cc (t : Int32) (p : Int32 × tq_I) (k : Nat) : Int32 × tq_I := (p.1 + r_X8_changeCorner p.2 (k % 11) (k / 11) t, I_X8_changeCorner p.2 (k % 11) (k / 11) t)
def tw_gg (t : Int32) (w h : Nat) (p : Int32 × tq_I) (k : Nat) : Int32 × tq_I := (p.1 + (if p.2 3 k = t then nI 0 else nI 1), fun cz j => if p.2 3 k = t then p.2 cz j else if cz = 3 ∧ j = k then t else if cz = 16 ∧ (k % 11 ≤ j % 10 + 1 ∧ j % 10 + 1 ≤ k % 11 + 1 ∧ k / 11 ≤ j / 10 + 1 ∧ j / 10 + 1 ≤ k / 11 + 1 ∧ tw_in w h j) then nI 1 else p.2 cz j)
theorem tw_ccE {t : Int32} {w h k : Nat} {p : Int32 × tq_I} (hw : p.2 2 0 = nI w) (hh : p.2 2 1 = nI h) (hw10 : w ≤ 10) (hh10 : h ≤ 10) (hk : k < 121) : tw_cc t p k = tw_gg t w h p k := by
  have e : k / 11 * 11 + k % 11 = k := by omega
  unfold tw_cc tw_gg
  refine Prod.ext ?_ ?_
  · show p.1 + r_X8_changeCorner p.2 (k % 11) (k / 11) t = _
    unfold r_X8_changeCorner
    rw [e]
  · show I_X8_changeCorner p.2 (k % 11) (k / 11) t = _
    funext cz j
    dsimp only
    by_cases ht : p.2 3 k = t
    · rw [if_pos ht]
      unfold I_X8_changeCorner
      rw [e, if_pos ht]
    · rw [if_neg ht]
      by_cases c3 : cz = 3
      · subst c3
        rw [tq_cc3, e]
        by_cases cj : j = k
        · rw [if_pos cj, if_pos ⟨rfl, cj⟩]
        · rw [if_neg cj, if_neg (fun z => cj z.2), if_neg (fun z => absurd z.1 (by decide))]
      · rw [if_neg (fun z => c3 z.1)]
        by_cases c6 : cz = 16
        · subst c6
          unfold I_X8_changeCorner
          rw [e, if_neg ht, tw_tb ((tq_u_cell (by decide)).trans hw) ((tq_u_cell (by decide)).trans hh) hw10 hh10 (by omega) (by omega) (by omega) (by omega), tq_u_cell (by decide)]
          exact tw_if (by simp)
        · rw [if_neg (fun z => c6 z.1)]
          exact fr_X8_changeCorner _ _ _ _ ⟨c3, c6⟩ j
theorem tw_ccfold {t : Int32} {w h : Nat} (hw10 : w ≤ 10) (hh10 : h ≤ 10) : ∀ (l : List Nat) (p : Int32 × tq_I), (∀ k ∈ l, k < 121) → p.2 2 0 = nI w → p.2 2 1 = nI h → l.foldl (tw_cc t) p = l.foldl (tw_gg t w h) p
  | [], _, _, _, _ => rfl
  | k :: l, p, hl, hw, hh => by
    rw [List.foldl_cons, List.foldl_cons, ← tw_ccE hw hh hw10 hh10 (hl k List.mem_cons_self)]
    exact tw_ccfold hw10 hh10 l _ (fun q hq => hl q (List.mem_cons_of_mem _ hq)) ((fr_X8_changeCorner _ _ _ _ (by decide) 0).trans hw) ((fr_X8_changeCorner _ _ _ _ (by decide) 1).trans hh)
theorem tw_ggc {t : Int32} {w h : Nat} (x y : Nat) (z : Int32 × tq_I) : tw_gg t w h (tw_gg t w h z x) y = tw_gg t w h (tw_gg t w h z y) x := by
  by_cases e : x = y
  · rw [e]
  · have f1 : ∀ u v, u ≠ v → (tw_gg t w h z u).2 3 v = z.2 3 v := fun u v huv => by
      unfold tw_gg
      dsimp only
      split
      · rfl
      · rw [if_neg (fun q => huv q.2.symm), if_neg (fun q => absurd q.1 (by decide))]
    have g1 := f1 x y e
    have g2 := f1 y x (fun q => e q.symm)
    refine Prod.ext ?_ ?_
    · show (tw_gg t w h z x).1 + (if (tw_gg t w h z x).2 3 y = t then nI 0 else nI 1) = (tw_gg t w h z y).1 + (if (tw_gg t w h z y).2 3 x = t then nI 0 else nI 1)
      rw [g1, g2]
      show z.1 + _ + _ = z.1 + _ + _
      rw [Int32.add_assoc, Int32.add_assoc, Int32.add_comm (if z.2 3 x = t then nI 0 else nI 1)]
    · funext cz j
      show (if (tw_gg t w h z x).2 3 y = t then (tw_gg t w h z x).2 cz j else _) = (if (tw_gg t w h z y).2 3 x = t then (tw_gg t w h z y).2 cz j else _)
      rw [g1, g2]
      unfold tw_gg
      dsimp only
      by_cases hx : z.2 3 x = t
      · by_cases hy : z.2 3 y = t
        · simp only [if_pos hx, if_pos hy]
        · simp only [if_pos hx, if_neg hy]
      · by_cases hy : z.2 3 y = t
        · simp only [if_neg hx, if_pos hy]
        · simp only [if_neg hx, if_neg hy]
          by_cases c3 : cz = 3
          · simp only [c3, true_and]
            by_cases j1 : j = x
            · by_cases j2 : j = y
              · omega
              · simp [j1, j2]
            · by_cases j2 : j = y
              · simp [j1, j2]
              · simp [j1, j2]
          · simp only [c3, false_and, if_false]
            split
            · rename_i h1
              split <;> simp_all
            · rfl
section TWFL
variable {A B A' B' : tq_I} {w h o c L : Nat}
theorem tw_flood (k : tw_inv A B w h o c L) (x y t : Int32) : r_X11_flood A x y t w h o c L = r_X12_flood B x y t w h c ∧ ∃ o' c', tw_inv (I_X11_flood A x y t w h o c L) (I_X12_flood B x y t w h c) w h o' c' L := by
  have hw := k.w1
  unfold r_X11_flood r_X12_flood I_X11_flood I_X12_flood
  rw [k.cornerE]
  split
  · exact ⟨rfl, o, c, k⟩
  · rename_i hc
    obtain ⟨h1, h2, -, -⟩ := k.ok.corner (tq_b10 hc)
    split
    · exact ⟨rfl, o, c, k⟩
    · rename_i ht
      have ht' := tq_t05 (tq_b10 ht)
      generalize tq_N x = X at *
      generalize tq_N y = Y at *
      obtain ⟨k1, m1⟩ := tw_forg k.sav (tw_TT (I_X12_forgets (tr_sav B c)) w h (I_X12_forgets (tr_sav B c) 118 (22 + 11 * Y + X)))
      have n0 : ∀ q, q < 121 → ¬ I_X5_forget (tq_rec A o c) 100 q = nI 1 := fun q hq z => by rw [tw_forgA _ q hq] at z; exact absurd z (by decide)
      obtain ⟨k2, m2, n, G⟩ := tw_find k1 h1 h2 m1
      have tm := m2.2.1
      generalize I_X12_reaches (I_X12_forgets (tr_sav B c)) X Y w h = b at *
      generalize I_X5_gather (I_X5_forget (tq_rec A o c)) X Y = a at *
      obtain ⟨-, g2, g3, g4, g5, g6, -, -⟩ := G
      rw [g2, tq_N_nI (by omega)]
      -- the class's loop as a fold over what was found
      have f101 : ∀ i, i < n → tq_N (a 101 i) < 121 ∧ a 101 i = nI (tq_N (a 101 i)) ∧ a 100 (tq_N (a 101 i)) = nI 1 := fun i hi => by
        obtain ⟨v, v1, v2, v3⟩ := g4 i hi
        rw [v2, tq_N_nI (by omega)]
        exact ⟨v1, rfl, v3⟩
      have eF : tq_it (f_fl1 X Y t n w h (tq_o1 o c) (tq_c1n c) L) n 0 (nI 0, a) = ((List.range n).map (fun i => tq_N (a 101 i))).foldl (tw_cc t) (nI 0, a) := by
        rw [List.foldl_map, ← tw_itfold (fun i p => tw_cc t p (tq_N (a 101 i)))]
        have := tw_it20 (f := f_fl1 X Y t n w h (tq_o1 o c) (tq_c1n c) L) (g := fun i p => tw_cc t p (tq_N (a 101 i))) (fun _ (p q : Int32 × tq_I) => p = q ∧ ∀ j, p.2 101 j = a 101 j) n (nI 0, a) (nI 0, a) ⟨rfl, fun _ => rfl⟩ (fun i p q hi hpq => by
          obtain ⟨e1, e2⟩ := hpq
          subst e1
          refine ⟨?_, fun j => ?_⟩
          · unfold f_fl1 tw_cc
            rw [e2]
          · rw [← e2 j]
            exact fr_X8_changeCorner _ _ _ _ (by decide) j)
        exact this.1
      have lt1 : ∀ q ∈ (List.range n).map (fun i => tq_N (a 101 i)), q < 121 := fun q hq => by
        obtain ⟨i, hi, e⟩ := List.mem_map.mp hq
        rw [← e]
        exact (f101 i (List.mem_range.mp hi)).1
      have nd1 : ((List.range n).map (fun i => tq_N (a 101 i))).Nodup := by
        refine List.pairwise_map.mpr (List.Pairwise.imp_of_mem ?_ (List.nodup_range (n := n)))
        intro i j hi hj hij e
        have hi' := f101 i (List.mem_range.mp hi)
        have hj' := f101 j (List.mem_range.mp hj)
        exact hij (g5 i j (List.mem_range.mp hi) (List.mem_range.mp hj) (by rw [hi'.2.1, hj'.2.1, e]))
      have nd2 : ((List.range 121).filter (fun q => decide (a 100 q = nI 1))).Nodup := List.Nodup.sublist List.filter_sublist List.nodup_range
      have perm := (List.perm_ext_iff_of_nodup nd1 nd2).mpr (fun q => by
        rw [List.mem_map, List.mem_filter, List.mem_range, decide_eq_true_eq]
        constructor
        · rintro ⟨i, hi, e⟩
          have := f101 i (List.mem_range.mp hi)
          rw [← e]
          exact ⟨this.1, this.2.2⟩
        · rintro ⟨hq, hq2⟩
          rcases (g6 q hq hq2).2 with z | ⟨j, j1, j2⟩
          · exact absurd z.2 (n0 q z.1)
          · exact ⟨j, List.mem_range.mpr j1, by rw [j2, tq_N_nI (by omega)]⟩)
      have eP : tq_it (f_fl1 X Y t n w h (tq_o1 o c) (tq_c1n c) L) n 0 (nI 0, a) = tq_it (fun q p => if decide (a 100 q = nI 1) = true then tw_cc t p q else p) 121 0 (nI 0, a) := by
        rw [eF, tw_ccfold hw.2.1 hw.2.2.2 _ _ lt1 k2.D.1 k2.D.2, List.Perm.foldl_eq' perm (fun x _ y _ z => tw_ggc x y z), ← tw_ccfold hw.2.1 hw.2.2.2 _ _ (fun q hq => List.mem_range.mp (List.mem_filter.mp hq).1) k2.D.1 k2.D.2, List.foldl_filter, tw_itfold]
      rw [eP]
      have key := tw_it20 (f := fun q p => if decide (a 100 q = nI 1) = true then tw_cc t p q else p) (g := f_mfl1 X Y t w h) (fun _ (p q : Int32 × tq_I) => p.1 = q.1 ∧ tw_inv p.2 q.2 w h (tq_o1 o c) (tq_c1n c) L ∧ ∀ j, q.2 121 j = b 121 j) 121 (nI 0, a) (nI 0, b) ⟨rfl, k2, fun _ => rfl⟩ (fun i p q hi hpq => by
        obtain ⟨e1, e2, e3⟩ := hpq
        have em := m2.1 i
        unfold f_mfl1
        rw [e3]
        by_cases c1 : a 100 i = nI 1
        · have c2 := em.mp ⟨hi, c1⟩
          have c3 := tm i c2
          rw [if_pos (decide_eq_true c1), if_neg c2.2]
          obtain ⟨r1, r2⟩ := tw_lay e2 (x := i % 11) (y := i / 11) (t := t) c3.2.1 c3.2.2.1 ⟨ht'.1, ht'.2.1⟩
          unfold tw_cc
          dsimp only
          exact ⟨by rw [e1, r1], r2, fun j => by rw [← e3 j]; exact fr_X12_lays _ _ _ _ _ _ (by decide) j⟩
        · have c2 : b 121 i = 0 := Classical.byContradiction (fun z => c1 (em.mpr ⟨hi, z⟩).2)
          rw [if_neg (fun z => c1 (of_decide_eq_true z)), if_pos c2]
          exact ⟨by show p.1 = q.1 + nI 0; rw [tw_z0]; exact e1, e2, e3⟩)
      exact ⟨key.1, _, _, key.2.1⟩
end TWFL
