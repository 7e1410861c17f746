/-! settings, raise -/
section TWS
variable {A B A' B' : tq_I} {w h o c L : Nat}
theorem tw_tall (k : tw_inv A B w h o c L) : tw_inv (I_X8_touchAll A w h) (I_X12_touchesAll B w h) w h o c L := by
  have hw := k.w1
  have hA : ∀ cz, cz ≠ 16 → ∀ j, I_X8_touchAll A w h cz j = A cz j := fun cz hz j => fr_X8_touchAll A w h hz j
  have hB : ∀ cz, cz ≠ 118 → ∀ j, I_X12_touchesAll B w h cz j = B cz j := fun cz hz j => fr_X12_touchesAll B w h hz j
  have hQ : ∀ j, j < 243 ∨ 343 ≤ j → I_X12_touchesAll B w h 118 j = B 118 j := fun j hj => fs_touchesAll k.twh hj
  refine k.now (fun cz hz j => hA cz (by omega) j) hB (fun j hj => hQ j (by omega)) ?_
  obtain ⟨a1, a2, a3, a4, a5, a6, a7⟩ := k.1
  refine ⟨a1.cong (fun j _ => hA _ (by decide) j) (fun j hj => hQ j (by omega)), a2.cong hw.2.1 hw.2.2.2 (fun j _ => hA _ (by decide) j) (fun j h1 h2 => hQ j (by omega)), a3.cong (fun j _ => hA _ (by decide) j) (fun j h1 h2 => hQ j (by omega)), a4.cong (fun j _ => ⟨hA _ (by decide) j, hA _ (by decide) j⟩) (fun j h1 h2 => hQ j (by omega)), a5.cong ⟨hA _ (by decide) _, hA _ (by decide) _⟩ (fun j _ => ⟨hA _ (by decide) j, hA _ (by decide) j⟩) (fun j _ => hA _ (by decide) j) (fun j h1 => hQ j (by omega)), fun j hj => ?_, a7.cong (fun j _ => ⟨hA _ (by decide) j, hA _ (by decide) j⟩) (fun j _ => hA _ (by decide) j) (fun j h1 h2 => hQ j (by omega))⟩
  show I_X8_touchAll A w h 16 j = I_X12_touchesAll B w h 118 (243 + j) ∧ (I_X12_touchesAll B w h 118 (243 + j) = 0 ∨ I_X12_touchesAll B w h 118 (243 + j) = 1) ∧ (¬ tw_in w h j → I_X12_touchesAll B w h 118 (243 + j) = 0)
  obtain ⟨b1, b2, b3⟩ := k.X hj
  rw [tw_ta k.twh j hj]
  refine ⟨?_, ?_, fun hn => by rw [if_neg hn]; exact b3 hn⟩
  · unfold I_X8_touchAll
    rw [tw_tb k.D.1 k.D.2 hw.2.1 hw.2.2.2 (by decide) (by decide) (by omega) (by omega), b1]
    refine tw_if ?_
    unfold tw_in
    omega
  · split
    · exact Or.inr rfl
    · exact b2
theorem tw_tif (k : tw_inv A B w h o c L) (b : Int32) : tw_inv (I_X11_touchAllIf A b w h) (if b = 0 then B else I_X12_touchesAll B w h) w h o c L := by
  unfold I_X11_touchAllIf
  split
  · exact k
  · exact tw_tall k
/-- ranks -/
theorem tw_rk {B : tq_I} {e f : Nat → Nat} (h1 : ∀ r, r < 6 → e r < 6 ∧ f (e r) = r ∧ B 118 (4 + r) = nI (e r)) (h2 : ∀ t, t < 6 → f t < 6 ∧ e (f t) = t) {t : Nat} (ht : t < 6) : tr_rk B (nI t) = f t := by
  have h5 := tr_rk5 B (nI t)
  have h3 := tr_rk_at (I := B) (t := nI t) ⟨f t, by have := (h2 t ht).1; omega, by rw [(h1 _ (h2 t ht).1).2.2, (h2 t ht).2]⟩
  rw [(h1 _ (by omega)).2.2] at h3
  have h4 := tr_inj (by have := (h1 (tr_rk B (nI t)) (by omega)).1; omega) (by omega) h3
  rw [← (h1 (tr_rk B (nI t)) (by omega)).2.1, h4]
theorem tw_inv.rk (k : tw_inv A B w h o c L) {t : Nat} (ht : t < 6) : A 6 t = nI (tr_rk B (nI t)) := by
  obtain ⟨e, f, h1, h2⟩ := k.K
  rw [(h2 t ht).2.2, tw_rk (fun r hr => ⟨(h1 r hr).1, (h1 r hr).2.1, (h1 r hr).2.2.2⟩) (fun t ht => ⟨(h2 t ht).1, (h2 t ht).2.1⟩) ht]
theorem tw_rank (k : tw_inv A B w h o c L) (t : Int32) : r_X11_rank A t w h o c L = r_X12_rank B t w h c := by
  unfold r_X11_rank r_X12_rank
  split
  · rfl
  · rename_i ht
    have ht' := tq_t05 (tq_b10 ht)
    rw [k.rk (t := tq_N t) (by omega), ← tq_nIN ht'.1]
theorem tw_inv.r7 (k : tw_inv A B w h o c L) {r : Nat} (hr : r < 6) : A 7 r = B 118 (4 + r) ∧ 0 ≤ (A 7 r).toInt ∧ (A 7 r).toInt ≤ 5 := by
  obtain ⟨e, f, h1, h2⟩ := k.K
  rw [(h1 r hr).2.2.1, (h1 r hr).2.2.2]
  exact ⟨rfl, tw_e5 (h1 r hr).1⟩
/-- the class's move: places p .. r, one after the other -/
theorem tw_mt1 {A : tq_I} {e f : Nat → Nat} (h1 : ∀ r, r < 6 → e r < 6 ∧ f (e r) = r ∧ A 7 r = nI (e r)) (h2 : ∀ t, t < 6 → f t < 6 ∧ e (f t) = t ∧ A 6 t = nI (f t)) {t r p : Nat} (n : Nat) (hn : p + n ≤ 5) : (∀ k, k < 6 → tq_it (f_mt1 t r p) n 0 A 7 k = nI (if p ≤ k ∧ k < p + n then e (k + 1) else e k)) ∧ ∀ u, u < 6 → tq_it (f_mt1 t r p) n 0 A 6 u = nI (if p < f u ∧ f u ≤ p + n then f u - 1 else f u) := by
  refine tw_it0 (f := f_mt1 t r p) (fun n (a : tq_I) => (∀ k, k < 6 → a 7 k = nI (if p ≤ k ∧ k < p + n then e (k + 1) else e k)) ∧ ∀ u, u < 6 → a 6 u = nI (if p < f u ∧ f u ≤ p + n then f u - 1 else f u)) n A ⟨fun k hk => by rw [if_neg (by omega)]; exact (h1 k hk).2.2, fun u hu => by rw [if_neg (by omega)]; exact (h2 u hu).2.2⟩ ?_
  rintro m a hm ⟨b1, b2⟩
  have e1 : a 7 (p + m + 1) = nI (e (p + m + 1)) := by rw [b1 _ (by omega), if_neg (by omega)]
  have e2 := (h1 (p + m + 1) (by omega)).1
  have e3 := (h1 (p + m + 1) (by omega)).2.1
  unfold f_mt1 I_X6_place
  rw [e1, tq_N_nI (by omega), tq_N_nI (by omega)]
  refine ⟨fun k hk => ?_, fun u hu => ?_⟩
  · by_cases ek : k = p + m
    · rw [ek, tq_u_same, if_pos (by omega)]
    · rw [tq_u_slot ek, tq_u_cell (by decide), b1 k hk]
      exact congrArg nI (tw_if (by omega))
  · rw [tq_u_cell (by decide)]
    by_cases eu : u = e (p + m + 1)
    · rw [eu, tq_u_same, e3, if_pos (by omega)]
      exact congrArg nI (by omega)
    · rw [tq_u_slot eu, b2 u hu]
      have : f u ≠ p + m + 1 := fun q => eu (by rw [← (h2 u hu).2.1, q])
      exact congrArg nI (tw_if (by omega))
theorem tw_mt2 {A : tq_I} {e f : Nat → Nat} (h1 : ∀ r, r < 6 → e r < 6 ∧ f (e r) = r ∧ A 7 r = nI (e r)) (h2 : ∀ t, t < 6 → f t < 6 ∧ e (f t) = t ∧ A 6 t = nI (f t)) {t r p : Nat} (n : Nat) (hp : p ≤ 5) (hn : n ≤ p) : (∀ k, k < 6 → tq_it (f_mt2 t r p) n 0 A 7 k = nI (if k ≤ p ∧ p < k + n then e (k - 1) else e k)) ∧ ∀ u, u < 6 → tq_it (f_mt2 t r p) n 0 A 6 u = nI (if f u < p ∧ p ≤ f u + n then f u + 1 else f u) := by
  refine tw_it0 (f := f_mt2 t r p) (fun n (a : tq_I) => (∀ k, k < 6 → a 7 k = nI (if k ≤ p ∧ p < k + n then e (k - 1) else e k)) ∧ ∀ u, u < 6 → a 6 u = nI (if f u < p ∧ p ≤ f u + n then f u + 1 else f u)) n A ⟨fun k hk => by rw [if_neg (by omega)]; exact (h1 k hk).2.2, fun u hu => by rw [if_neg (by omega)]; exact (h2 u hu).2.2⟩ ?_
  rintro m a hm ⟨b1, b2⟩
  have e1 : a 7 (p - m - 1) = nI (e (p - m - 1)) := by rw [b1 _ (by omega), if_neg (by omega)]
  have e2 := (h1 (p - m - 1) (by omega)).1
  have e3 := (h1 (p - m - 1) (by omega)).2.1
  unfold f_mt2 I_X6_place
  rw [e1, tq_N_nI (by omega), tq_N_nI (by omega)]
  refine ⟨fun k hk => ?_, fun u hu => ?_⟩
  · by_cases ek : k = p - m
    · rw [ek, tq_u_same, if_pos (by omega)]
    · rw [tq_u_slot ek, tq_u_cell (by decide), b1 k hk]
      exact congrArg nI (tw_if (by omega))
  · rw [tq_u_cell (by decide)]
    by_cases eu : u = e (p - m - 1)
    · rw [eu, tq_u_same, e3, if_pos (by omega)]
      exact congrArg nI (by omega)
    · rw [tq_u_slot eu, b2 u hu]
      have : f u ≠ p - m - 1 := fun q => eu (by rw [← (h2 u hu).2.1, q])
      exact congrArg nI (tw_if (by omega))
theorem tw_sr1 {B : tq_I} {t r p n : Nat} (hn : p + n ≤ 5) : ∀ j, tq_it (f_sr1 t r p) n 0 B 118 j = if 4 + p ≤ j ∧ j < 4 + p + n then B 118 (j + 1) else B 118 j := by
  refine tw_it0 (f := f_sr1 t r p) (fun n (a : tq_I) => ∀ j, a 118 j = if 4 + p ≤ j ∧ j < 4 + p + n then B 118 (j + 1) else B 118 j) n B (fun j => by rw [if_neg (by omega)]) ?_
  intro m a hm b j
  unfold f_sr1
  by_cases ej : j = 4 + (p + m)
  · rw [ej, tq_u_same, b, if_neg (by omega), if_pos (by omega)]
  · rw [tq_u_slot ej, b]
    exact tw_if (by omega)
theorem tw_sr2 {B : tq_I} {t r p n : Nat} (hp : p ≤ 5) (hn : n ≤ p) : ∀ j, tq_it (f_sr2 t r p) n 0 B 118 j = if j ≤ 4 + p ∧ 4 + p < j + n then B 118 (j - 1) else B 118 j := by
  refine tw_it0 (f := f_sr2 t r p) (fun n (a : tq_I) => ∀ j, a 118 j = if j ≤ 4 + p ∧ 4 + p < j + n then B 118 (j - 1) else B 118 j) n B (fun j => by rw [if_neg (by omega)]) ?_
  intro m a hm b j
  unfold f_sr2
  by_cases ej : j = 4 + (p - m)
  · rw [ej, tq_u_same, b, if_neg (by omega), if_pos (by omega)]
  · rw [tq_u_slot ej, b]
    exact tw_if (by omega)
/-- the new order: t goes from p to r -/
theorem tw_move {A B : tq_I} {w h o c L t r : Nat} (k : tw_inv A B w h o c L) (ht : t < 6) (hr : r < 6) : tw_inv (I_X6_moveTo A t r (tq_N (A 6 t))) (tq_u (tq_it (f_sr2 t r (tr_rk B (nI t))) (tr_rk B (nI t) - r) 0 (tq_it (f_sr1 t r (tr_rk B (nI t))) (r - tr_rk B (nI t)) 0 B)) 118 (4 + r) (nI t)) w h o c L := by
  have hw := k.w1
  rw [k.rk ht, tq_N_nI (by have := tr_rk5 B (nI t); omega)]
  obtain ⟨e, f, h1, h2⟩ := k.K
  have ep := tw_rk (B := B) (fun r hr => ⟨(h1 r hr).1, (h1 r hr).2.1, (h1 r hr).2.2.2⟩) (fun t ht => ⟨(h2 t ht).1, (h2 t ht).2.1⟩) ht
  rw [ep]
  have hp := (h2 t ht).1
  have hpe := (h2 t ht).2.1
  generalize hpp : f t = p at *
  -- the cells that stay
  have hA : ∀ cz, cz ≠ 6 ∧ cz ≠ 7 → ∀ j, I_X6_moveTo A t r p cz j = A cz j := fun cz hz j => fr_X6_moveTo A t r p hz j
  generalize hB1 : tq_it (f_sr1 t r p) (r - p) 0 B = B1
  have x1 : ∀ j, B1 118 j = if 4 + p ≤ j ∧ j < 4 + p + (r - p) then B 118 (j + 1) else B 118 j := by rw [← hB1]; exact tw_sr1 (by omega)
  generalize hB2 : tq_it (f_sr2 t r p) (p - r) 0 B1 = B2
  have x2 : ∀ j, B2 118 j = if j ≤ 4 + p ∧ 4 + p < j + (p - r) then B1 118 (j - 1) else B1 118 j := by rw [← hB2]; exact tw_sr2 (by omega) (by omega)
  have hB : ∀ cz, cz ≠ 118 → ∀ j, tq_u B2 118 (4 + r) (nI t) cz j = B cz j := fun cz hz j => by rw [tq_u_cell hz, ← hB2, fr_sr2 _ _ _ hz, ← hB1, fr_sr1 _ _ _ hz]
  have hQ : ∀ j, j < 4 ∨ 10 ≤ j → tq_u B2 118 (4 + r) (nI t) 118 j = B 118 j := fun j hj => by rw [tq_u_slot (by omega), x2, if_neg (by omega), x1, if_neg (by omega)]
  have hQ4 : ∀ q, q < 6 → tq_u B2 118 (4 + r) (nI t) 118 (4 + q) = nI (if q = r then t else if p ≤ q ∧ q < r then e (q + 1) else if r < q ∧ q ≤ p then e (q - 1) else e q) := by
    intro q hq
    by_cases eq : q = r
    · rw [eq, tq_u_same, if_pos rfl]
    · rw [tq_u_slot (by omega), if_neg eq, x2]
      by_cases c1 : r < q ∧ q ≤ p
      · rw [if_pos (by omega), x1, if_neg (by omega), if_neg (by omega), if_pos c1, ← (h1 (q - 1) (by omega)).2.2.2]
        exact tw_ix (f := B 118) (by omega)
      · rw [if_neg (by omega), x1]
        by_cases c2 : p ≤ q ∧ q < r
        · rw [if_pos (by omega), if_pos c2, ← (h1 (q + 1) (by omega)).2.2.2]
          exact tw_ix (f := B 118) (by omega)
        · rw [if_neg (by omega), if_neg c2, if_neg c1]
          exact (h1 q hq).2.2.2
  have g1 : ∀ r, r < 6 → e r < 6 ∧ f (e r) = r ∧ A 7 r = nI (e r) := fun r hr => ⟨(h1 r hr).1, (h1 r hr).2.1, (h1 r hr).2.2.1⟩
  have hA7 : (∀ q, q < 6 → I_X6_moveTo A t r p 7 q = nI (if q = r then t else if p ≤ q ∧ q < r then e (q + 1) else if r < q ∧ q ≤ p then e (q - 1) else e q)) ∧ ∀ u, u < 6 → I_X6_moveTo A t r p 6 u = nI (if u = t then r else if p < f u ∧ f u ≤ r then f u - 1 else if r ≤ f u ∧ f u < p then f u + 1 else f u) := by
    unfold I_X6_moveTo I_X6_place
    rw [tq_N_nI (by omega), tq_N_nI (by omega)]
    rcases Nat.le_total p r with hpr | hpr
    · rw [show p - r = 0 by omega]
      obtain ⟨y1, y2⟩ := tw_mt1 g1 h2 (t := t) (r := r) (p := p) (r - p) (by omega)
      refine ⟨fun q hq => ?_, fun u hu => ?_⟩
      · by_cases eq : q = r
        · rw [eq, tq_u_same, if_pos rfl]
        · rw [tq_u_slot eq, tq_u_cell (by decide), if_neg eq]
          show tq_it (f_mt1 t r p) (r - p) 0 A 7 q = _
          rw [y1 q hq]
          refine congrArg nI ?_
          by_cases c2 : p ≤ q ∧ q < r
          · rw [if_pos (by omega), if_pos c2]
          · rw [if_neg (by omega), if_neg c2, if_neg (by omega)]
      · rw [tq_u_cell (by decide)]
        by_cases eu : u = t
        · rw [eu, tq_u_same, if_pos rfl]
        · rw [tq_u_slot eu, if_neg eu]
          show tq_it (f_mt1 t r p) (r - p) 0 A 6 u = _
          rw [y2 u hu]
          refine congrArg nI ?_
          by_cases c2 : p < f u ∧ f u ≤ r
          · rw [if_pos (by omega), if_pos c2]
          · rw [if_neg (by omega), if_neg c2, if_neg (by omega)]
    · rw [show r - p = 0 by omega]
      obtain ⟨y1, y2⟩ := tw_mt2 g1 h2 (t := t) (r := r) (p := p) (p - r) (by omega) (by omega)
      refine ⟨fun q hq => ?_, fun u hu => ?_⟩
      · by_cases eq : q = r
        · rw [eq, tq_u_same, if_pos rfl]
        · rw [tq_u_slot eq, tq_u_cell (by decide), if_neg eq]
          show tq_it (f_mt2 t r p) (p - r) 0 A 7 q = _
          rw [y1 q hq]
          refine congrArg nI ?_
          by_cases c2 : r < q ∧ q ≤ p
          · rw [if_pos (by omega), if_neg (by omega), if_pos c2]
          · rw [if_neg (by omega), if_neg (by omega), if_neg c2]
      · rw [tq_u_cell (by decide)]
        by_cases eu : u = t
        · rw [eu, tq_u_same, if_pos rfl]
        · rw [tq_u_slot eu, if_neg eu]
          show tq_it (f_mt2 t r p) (p - r) 0 A 6 u = _
          rw [y2 u hu]
          refine congrArg nI ?_
          by_cases c2 : r ≤ f u ∧ f u < p
          · rw [if_pos (by omega), if_neg (by omega), if_pos c2]
          · rw [if_neg (by omega), if_neg (by omega), if_neg c2]
  refine k.now (fun cz hz j => hA cz (by omega) j) hB (fun j hj => hQ j (by omega)) ?_
  obtain ⟨a1, a2, a3, a4, a5, a6, a7⟩ := k.1
  refine ⟨a1.cong (fun j _ => hA _ (by decide) j) (fun j hj => hQ j (by omega)), a2.cong hw.2.1 hw.2.2.2 (fun j _ => hA _ (by decide) j) (fun j h1 h2 => hQ j (by omega)), a3.cong (fun j _ => hA _ (by decide) j) (fun j h1 h2 => hQ j (by omega)), ?_, a5.cong ⟨hA _ (by decide) _, hA _ (by decide) _⟩ (fun j _ => ⟨hA _ (by decide) j, hA _ (by decide) j⟩) (fun j _ => hA _ (by decide) j) (fun j h1 => hQ j (by omega)), a6.cong (fun j _ => hA _ (by decide) j) (fun j h1 h2 => hQ j (by omega)), a7.cong (fun j _ => ⟨hA _ (by decide) j, hA _ (by decide) j⟩) (fun j _ => hA _ (by decide) j) (fun j h1 h2 => hQ j (by omega))⟩
  have inj : ∀ u, u < 6 → u ≠ t → f u ≠ p := fun u hu hne q => hne (by rw [← (h2 u hu).2.1, q, hpe])
  refine ⟨fun q => if q = r then t else if p ≤ q ∧ q < r then e (q + 1) else if r < q ∧ q ≤ p then e (q - 1) else e q, fun u => if u = t then r else if p < f u ∧ f u ≤ r then f u - 1 else if r ≤ f u ∧ f u < p then f u + 1 else f u, fun q hq => ⟨?_, ?_, hA7.1 q hq, hQ4 q hq⟩, fun u hu => ⟨?_, ?_, hA7.2 u hu⟩⟩
  · show (if q = r then t else if p ≤ q ∧ q < r then e (q + 1) else if r < q ∧ q ≤ p then e (q - 1) else e q) < 6
    split
    · exact ht
    · split
      · exact (h1 _ (by omega)).1
      · split
        · exact (h1 _ (by omega)).1
        · exact (h1 _ (by omega)).1
  · by_cases c0 : q = r
    · simp only [if_pos c0, if_true]; exact c0.symm
    · have hne : ∀ z, z < 6 → z ≠ p → e z ≠ t := fun z hz hzp q => hzp (by rw [← (h1 z hz).2.1, q, hpp])
      by_cases c1 : p ≤ q ∧ q < r
      · have := hne (q + 1) (by omega) (by omega)
        simp only [if_neg c0, if_pos c1, if_neg this, (h1 (q + 1) (by omega)).2.1]
        rw [if_pos (by omega)]
        omega
      · by_cases c2 : r < q ∧ q ≤ p
        · have := hne (q - 1) (by omega) (by omega)
          simp only [if_neg c0, if_neg c1, if_pos c2, if_neg this, (h1 (q - 1) (by omega)).2.1]
          rw [if_neg (by omega), if_pos (by omega)]
          omega
        · have := hne q hq (by omega)
          simp only [if_neg c0, if_neg c1, if_neg c2, if_neg this, (h1 q hq).2.1]
          rw [if_neg (by omega), if_neg (by omega)]
  · show (if u = t then r else if p < f u ∧ f u ≤ r then f u - 1 else if r ≤ f u ∧ f u < p then f u + 1 else f u) < 6
    have := (h2 u hu).1
    split
    · exact hr
    · split
      · omega
      · split <;> omega
  · by_cases c0 : u = t
    · simp only [if_pos c0, if_true]; exact c0.symm
    · have h3 := inj u hu c0
      have h4 := (h2 u hu).1
      have h5 := (h2 u hu).2.1
      by_cases c1 : p < f u ∧ f u ≤ r
      · simp only [if_neg c0, if_pos c1]
        rw [if_neg (by omega), if_pos (by omega), show f u - 1 + 1 = f u by omega]
        exact h5
      · by_cases c2 : r ≤ f u ∧ f u < p
        · simp only [if_neg c0, if_neg c1, if_pos c2]
          rw [if_neg (by omega), if_neg (by omega), if_pos (by omega), show f u + 1 - 1 = f u by omega]
          exact h5
        · simp only [if_neg c0, if_neg c1, if_neg c2]
          rw [if_neg (by omega), if_neg (by omega), if_neg (by omega)]
          exact h5
theorem tw_setRank (k : tw_inv A B w h o c L) (t r : Int32) : r_X11_setRank A t r w h o c L = r_X12_setRank B t r w h c ∧ ∃ o' c', tw_inv (I_X11_setRank A t r w h o c L) (I_X12_setRank B t r w h c) w h o' c' L := by
  unfold r_X11_setRank r_X12_setRank I_X11_setRank I_X12_setRank
  split
  · exact ⟨rfl, o, c, k⟩
  · rename_i ht
    have ht' := (tq_t05 (tq_b10 ht)).2.2
    split
    · exact ⟨rfl, o, c, k⟩
    · rename_i hr
      have hr' := (tq_t05 (tq_b10 hr)).2.2
      have s := k.sav
      have m := tw_move s (t := tq_N t) (r := tq_N r) (by omega) (by omega)
      have e := s.rk (t := tq_N t) (by omega)
      rw [← e]
      refine ⟨rfl, tq_o1 o c, tq_c1n c, ?_⟩
      split
      · exact m
      · have := tw_tif m (nI 1)
        rw [if_neg (by decide)] at this
        exact this
end TWS
