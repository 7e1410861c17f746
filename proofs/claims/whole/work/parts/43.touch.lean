/-! touches and corners -/
theorem tw_if {α : Type} {p q : Prop} [Decidable p] [Decidable q] {a b : α} (h : p ↔ q) : (if p then a else b) = if q then a else b := by
  by_cases hp : p
  · rw [if_pos hp, if_pos (h.mp hp)]
  · rw [if_neg hp, if_neg (fun x => hp (h.mpr x))]
theorem tw_rowO {α β : Type} {F : Nat → α → α} {G : Nat → β → β} (R : Nat → α → β → Prop) {W w l o : Nat} (hw : l + w ≤ W)
    (hin : ∀ x a b, x < w → R (o + (l + x)) a b → R (o + (l + x) + 1) (F x a) (G (o + (l + x)) b)) (hout : ∀ x a b, x < W → x < l ∨ l + w ≤ x → R (o + x) a b → R (o + x + 1) a (G (o + x) b)) {a : α} {b : β} (h0 : R o a b) : R (o + W) (tq_it F w 0 a) (tq_it G W o b) := by
  have e : tq_it G W o b = tq_it G (W - l) (o + l) (tq_it G l o b) := by rw [← tw_ita]; congr 1; omega
  rw [e]
  have h1 : R (o + l) a (tq_it G l o b) := tw_itI (fun j y => R (o + j) a y) l o b h0 (fun j y hj hb => hout j a y (by omega) (by omega) hb)
  have h2 := tw_row (F := F) (G := G) R (W := W - l) (w := w) (o := o + l) (by omega) (fun x a b hx hb => by
    have := hin x a b hx (by rw [show o + (l + x) = o + l + x by omega]; exact hb)
    rwa [show o + (l + x) = o + l + x by omega] at this) (fun x a b h1 h2 hb => by
    have := hout (l + x) a b (by omega) (by omega) (by rw [show o + (l + x) = o + l + x by omega]; exact hb)
    rwa [show o + (l + x) = o + l + x by omega] at this) h1
  rwa [show o + l + (W - l) = o + W by omega] at h2
theorem tw_nestO {α β : Type} {F : Nat → Nat → α → α} {F2 : Nat → α → α} {G : Nat → β → β} (R : Nat → α → β → Prop) {W H w h l t : Nat} (hw : l + w ≤ W) (hh : t + h ≤ H) (hF : ∀ y a, F2 y a = tq_it (F y) w 0 a)
    (hin : ∀ x y a b, x < w → y < h → R ((t + y) * W + (l + x)) a b → R ((t + y) * W + (l + x) + 1) (F y x a) (G ((t + y) * W + (l + x)) b)) (hout : ∀ x y a b, x < W → y < H → ¬ (l ≤ x ∧ x < l + w ∧ t ≤ y ∧ y < t + h) → R (y * W + x) a b → R (y * W + x + 1) a (G (y * W + x) b)) {a : α} {b : β} (h0 : R 0 a b) : R (H * W) (tq_it F2 h 0 a) (tq_it G (H * W) 0 b) := by
  have skip : ∀ (y0 d : Nat) (a : α) (b : β), y0 + d ≤ H → (∀ y, y0 ≤ y → y < y0 + d → y < t ∨ t + h ≤ y) → R (y0 * W) a b → R ((y0 + d) * W) a (tq_it G (d * W) (y0 * W) b) := by
    intro y0 d
    induction d with
    | zero => intro a b _ _ hb; rw [Nat.zero_mul]; exact hb
    | succ d ih =>
      intro a b h1 h2 hb
      have h3 := ih a b (by omega) (fun y a1 a2 => h2 y a1 (by omega)) hb
      rw [show (d + 1) * W = d * W + W from Nat.succ_mul d W, tw_ita G, show y0 * W + d * W = (y0 + d) * W from (Nat.add_mul y0 d W).symm, show (y0 + (d + 1)) * W = (y0 + d) * W + W from Nat.succ_mul (y0 + d) W]
      exact tw_itI (fun j y => R ((y0 + d) * W + j) a y) W ((y0 + d) * W) _ h3 (fun j y hj hb => hout j (y0 + d) _ y hj (by omega) (by have := h2 (y0 + d) (by omega) (by omega); omega) hb)
  have h1 := skip 0 t a b (by omega) (fun y a1 a2 => by omega) (by rw [Nat.zero_mul]; exact h0)
  rw [Nat.zero_add, Nat.zero_mul] at h1
  have h2 : ∀ y, y ≤ h → R ((t + y) * W) (tq_it F2 y 0 a) (tq_it G ((t + y) * W) 0 b) := by
    intro y
    induction y with
    | zero => intro _; exact h1
    | succ y ih =>
      intro hy
      have h3 := ih (by omega)
      rw [show (t + (y + 1)) * W = (t + y) * W + W from Nat.succ_mul (t + y) W, tw_ita G, tw_ita F2 y 1, Nat.zero_add, Nat.zero_add]
      show R _ (F2 y (tq_it F2 y 0 a)) _
      rw [hF]
      exact tw_rowO R hw (fun x a b hx hb => hin x y a b hx (by omega) hb) (fun x a b h1 h2 hb => hout x (t + y) a b h1 (by omega) (by omega) hb) h3
  have h3 := skip (t + h) (H - (t + h)) _ _ (by omega) (fun y a1 a2 => by omega) (h2 h (Nat.le_refl _))
  rw [show t + h + (H - (t + h)) = H by omega] at h3
  have e : tq_it G (H * W) 0 b = tq_it G ((H - (t + h)) * W) ((t + h) * W) (tq_it G ((t + h) * W) 0 b) := by
    have := tw_ita G ((t + h) * W) ((H - (t + h)) * W) 0 b
    rw [Nat.zero_add] at this
    rw [← this, ← Nat.add_mul]
    congr 1
    rw [show t + h + (H - (t + h)) = H by omega]
  rw [e]
  exact h3
theorem tw_N1 {a : Nat} (h : a < 2 ^ 31) : tq_N (nI a - nI 1) = a - 1 := by unfold tq_N; rw [tq_m1 h]; omega
theorem tw_tb1 {I : tq_I} {l t r b yy w h : Nat} (hw : I 2 0 = nI w) (hh : I 2 1 = nI h) (hw10 : w ≤ 10) (hh10 : h ≤ 10) (hy : yy ≤ 30) (n : Nat) (hl : l + n ≤ 30) : (∀ cz, cz ≠ 16 → ∀ j, tq_it (f_tb1 l t r b (nI yy - nI 1)) n 0 I cz j = I cz j) ∧ ∀ j, tq_it (f_tb1 l t r b (nI yy - nI 1)) n 0 I 16 j = if l ≤ j % 10 + 1 ∧ j % 10 + 1 < l + n ∧ j / 10 + 1 = yy ∧ tw_in w h j then nI 1 else I 16 j := by
  refine tw_it0 (fun n (a : tq_I) => (∀ cz, cz ≠ 16 → ∀ j, a cz j = I cz j) ∧ ∀ j, a 16 j = if l ≤ j % 10 + 1 ∧ j % 10 + 1 < l + n ∧ j / 10 + 1 = yy ∧ tw_in w h j then nI 1 else I 16 j) n I ⟨fun _ _ _ => rfl, fun j => by rw [if_neg (by omega)]⟩ ?_
  rintro n' a hn ⟨ha, hb⟩
  have e1 : (nI (l + n') - nI 1).toInt = ((l + n' : Nat) : Int) - 1 := tq_m1 (by omega)
  have e2 : (nI yy - nI 1).toInt = (yy : Int) - 1 := tq_m1 (by omega)
  have e3 : (a 2 0).toInt = (w : Int) := by rw [ha 2 (by decide), hw, nI_toInt (by omega)]
  have e4 : (a 2 1).toInt = (h : Int) := by rw [ha 2 (by decide), hh, nI_toInt (by omega)]
  unfold f_tb1
  by_cases hc : tq_cell a (nI (l + n') - nI 1) (nI yy - nI 1)
  · rw [if_neg (fun q => tq_b0.mp q hc)]
    have hc' := hc
    unfold tq_cell at hc'
    rw [e1, e2, e3, e4] at hc'
    rw [tw_N1 (by omega), tw_N1 (by omega)]
    refine ⟨fun cz hz j => by rw [tq_u_cell hz]; exact ha cz hz j, fun j => ?_⟩
    by_cases ej : j = (yy - 1) * 10 + (l + n' - 1)
    · rw [ej, tq_u_same, if_pos]
      unfold tw_in
      omega
    · rw [tq_u_slot ej, hb]
      refine tw_if ?_
      unfold tw_in
      omega
  · rw [if_pos (tq_b0.mpr hc)]
    unfold tq_cell at hc
    rw [e1, e2, e3, e4] at hc
    refine ⟨ha, fun j => ?_⟩
    rw [hb]
    refine tw_if ?_
    unfold tw_in
    omega
theorem tw_tb {I : tq_I} {l t r b w h : Nat} (hw : I 2 0 = nI w) (hh : I 2 1 = nI h) (hw10 : w ≤ 10) (hh10 : h ≤ 10) (hl : l ≤ 14) (ht : t ≤ 14) (hr : r ≤ 14) (hb' : b ≤ 14) (j : Nat) : I_X8_touchBlock I l t r b 16 j = if l ≤ j % 10 + 1 ∧ j % 10 + 1 ≤ r ∧ t ≤ j / 10 + 1 ∧ j / 10 + 1 ≤ b ∧ tw_in w h j then nI 1 else I 16 j := by
  have key : (∀ cz, cz ≠ 16 → ∀ j, tq_it (f_tb2 l t r b) (b + 1 - t) 0 I cz j = I cz j) ∧ ∀ j, tq_it (f_tb2 l t r b) (b + 1 - t) 0 I 16 j = if l ≤ j % 10 + 1 ∧ j % 10 + 1 ≤ r ∧ t ≤ j / 10 + 1 ∧ j / 10 + 1 < t + (b + 1 - t) ∧ tw_in w h j then nI 1 else I 16 j := by
    refine tw_it0 (fun n (a : tq_I) => (∀ cz, cz ≠ 16 → ∀ j, a cz j = I cz j) ∧ ∀ j, a 16 j = if l ≤ j % 10 + 1 ∧ j % 10 + 1 ≤ r ∧ t ≤ j / 10 + 1 ∧ j / 10 + 1 < t + n ∧ tw_in w h j then nI 1 else I 16 j) _ I ⟨fun _ _ _ => rfl, fun j => by rw [if_neg (by omega)]⟩ ?_
    rintro n' a hn ⟨ha, hb⟩
    unfold f_tb2
    obtain ⟨q1, q2⟩ := tw_tb1 (l := l) (t := t) (r := r) (b := b) (yy := t + n') (n := r + 1 - l) ((ha 2 (by decide) 0).trans hw) ((ha 2 (by decide) 1).trans hh) hw10 hh10 (by omega) (by omega)
    refine ⟨fun cz hz j => by rw [q1 cz hz]; exact ha cz hz j, fun j => ?_⟩
    rw [q2, hb]
    by_cases c1 : l ≤ j % 10 + 1 ∧ j % 10 + 1 < l + (r + 1 - l) ∧ j / 10 + 1 = t + n' ∧ tw_in w h j
    · rw [if_pos c1, if_pos (by unfold tw_in at *; omega)]
    · rw [if_neg c1]
      refine tw_if ?_
      unfold tw_in at *
      omega
  show tq_it (f_tb2 l t r b) (b + 1 - t) 0 I 16 j = _
  rw [key.2]
  refine tw_if ?_
  unfold tw_in
  omega
/-! the reference's touch -/
theorem tw_tch {B : tq_I} {x y : Int32} {w h : Nat} (k : tr_wh B w h) (j : Nat) : I_X12_touches B x y w h 118 j = if 0 ≤ x.toInt ∧ x.toInt < (w : Int) ∧ 0 ≤ y.toInt ∧ y.toInt < (h : Int) ∧ (j : Int) = 243 + 10 * y.toInt + x.toInt then nI 1 else B 118 j := by
  unfold I_X12_touches
  by_cases hc : tr_cell B x y
  · rw [if_neg (fun q => tq_b0.mp q hc)]
    have hc' := k.cell.mp hc
    have e1 := tq_NI hc'.1
    have e2 := tq_NI hc'.2.2.1
    by_cases ej : j = 243 + 10 * tq_N y + tq_N x
    · rw [ej, tq_u_same, if_pos (by omega)]
    · rw [tq_u_slot ej, if_neg (by omega)]
  · rw [if_pos (tq_b0.mpr hc)]
    have hc' : ¬ (0 ≤ x.toInt ∧ x.toInt < (w : Int) ∧ 0 ≤ y.toInt ∧ y.toInt < (h : Int)) := fun q => hc (k.cell.mpr q)
    rw [if_neg (by omega)]
theorem tw_ta {B : tq_I} {w h : Nat} (k : tr_wh B w h) (j : Nat) (hj : j < 100) : I_X12_touchesAll B w h 118 (243 + j) = if tw_in w h j then nI 1 else B 118 (243 + j) := by
  have key : tr_wh (tq_it (f_ta1 w h) 100 0 B) w h ∧ ∀ j, j < 100 → tq_it (f_ta1 w h) 100 0 B 118 (243 + j) = if j < 100 ∧ tw_in w h j then nI 1 else B 118 (243 + j) := by
    refine tw_it0 (fun n (a : tq_I) => tr_wh a w h ∧ ∀ j, j < 100 → a 118 (243 + j) = if j < n ∧ tw_in w h j then nI 1 else B 118 (243 + j)) 100 B ⟨k, fun j _ => by rw [if_neg (by omega)]⟩ ?_
    rintro n a hn ⟨ha, hb⟩
    refine ⟨ha.touches, fun j hj => ?_⟩
    show I_X12_touches a (nI (n % 10)) (nI (n / 10)) w h 118 (243 + j) = _
    rw [tw_tch ha, nI_toInt (by omega), nI_toInt (by omega), hb j hj]
    unfold tw_in
    by_cases e : j = n
    · subst e
      by_cases c : j % 10 < w ∧ j / 10 < h
      · rw [if_pos (by omega), if_pos (by omega)]
      · rw [if_neg (by omega), if_neg (by omega), if_neg (by omega)]
    · rw [if_neg (by omega)]
      exact tw_if (by omega)
  show tq_it (f_ta1 w h) 100 0 B 118 (243 + j) = _
  rw [key.2 j hj]
  exact tw_if (by omega)
theorem tw_bq {p q : Prop} [Decidable p] [Decidable q] (h : p ↔ q) : tq_b p = tq_b q := by
  by_cases hp : p
  · rw [tq_bt hp, tq_bt (h.mp hp)]
  · rw [tq_bf hp, tq_bf (fun x => hp (h.mpr x))]
section TWT
variable {A B : tq_I} {w h o c L : Nat}
theorem tw_inv.cornerE (k : tw_inv A B w h o c L) (x y : Int32) : tq_b (tr_corner B x y) = tq_b (tq_corner A x y) := by
  refine tw_bq ?_
  have hw := k.w1
  rw [k.twh.corner]
  unfold tq_corner
  rw [k.D.1, k.D.2, nI_toInt (by omega), nI_toInt (by omega)]
theorem tw_inv.cellE (k : tw_inv A B w h o c L) (x y : Int32) : tq_b (tr_cell B x y) = tq_b (tq_cell A x y) := by
  refine tw_bq ?_
  have hw := k.w1
  rw [k.twh.cell]
  unfold tq_cell
  rw [k.D.1, k.D.2, nI_toInt (by omega), nI_toInt (by omega)]
/-- the touches of the four cells round a corner -/
theorem tw_ly4 (k : tr_wh B w h) {x y : Nat} {t : Int32} (hx : x ≤ 10) (hy : y ≤ 10) (j : Nat) (hj : j < 100) : tq_it (f_ly1 x y t w h) 4 0 B 118 (243 + j) = if x ≤ j % 10 + 1 ∧ j % 10 + 1 ≤ x + 1 ∧ y ≤ j / 10 + 1 ∧ j / 10 + 1 ≤ y + 1 ∧ tw_in w h j then nI 1 else B 118 (243 + j) := by
  show I_X12_touches (I_X12_touches (I_X12_touches (I_X12_touches B (nI x - tq_rem (nI 0) (nI 2)) (nI y - nI 0 / nI 2) w h) (nI x - tq_rem (nI 1) (nI 2)) (nI y - nI 1 / nI 2) w h) (nI x - tq_rem (nI 2) (nI 2)) (nI y - nI 2 / nI 2) w h) (nI x - tq_rem (nI 3) (nI 2)) (nI y - nI 3 / nI 2) w h 118 (243 + j) = _
  rw [show tq_rem (nI 0) (nI 2) = nI 0 by decide, show nI 0 / nI 2 = nI 0 by decide, show tq_rem (nI 1) (nI 2) = nI 1 by decide, show nI 1 / nI 2 = nI 0 by decide, show tq_rem (nI 2) (nI 2) = nI 0 by decide, show nI 2 / nI 2 = nI 1 by decide, show tq_rem (nI 3) (nI 2) = nI 1 by decide, show nI 3 / nI 2 = nI 1 by decide, tq_sub_nI (Nat.zero_le x), tq_sub_nI (Nat.zero_le y), Nat.sub_zero, Nat.sub_zero]
  rw [tw_tch k.touches.touches.touches, tw_tch k.touches.touches, tw_tch k.touches, tw_tch k, tq_m1 (by omega), tq_m1 (by omega), nI_toInt (by omega), nI_toInt (by omega)]
  unfold tw_in
  have hk := k.2.2
  by_cases hC : x ≤ j % 10 + 1 ∧ j % 10 + 1 ≤ x + 1 ∧ y ≤ j / 10 + 1 ∧ j / 10 + 1 ≤ y + 1 ∧ j % 10 < w ∧ j / 10 < h
  · rw [if_pos hC]
    split
    · rfl
    · split
      · rfl
      · split
        · rfl
        · rw [if_pos (by omega)]
  · rw [if_neg hC, if_neg (by omega), if_neg (by omega), if_neg (by omega), if_neg (by omega)]
theorem tw_lay (k : tw_inv A B w h o c L) {x y : Nat} {t : Int32} (hx : x ≤ w) (hy : y ≤ h) (ht : 0 ≤ t.toInt ∧ t.toInt ≤ 5) : r_X8_changeCorner A x y t = r_X12_lays B x y t w h ∧ tw_inv (I_X8_changeCorner A x y t) (I_X12_lays B x y t w h) w h o c L := by
  have hw := k.w1
  have e : B 118 (22 + 11 * y + x) = A 3 (y * 11 + x) := by rw [k.T hx hy]; exact tw_ix (f := B 118) (by omega)
  unfold r_X8_changeCorner r_X12_lays
  rw [e]
  refine ⟨rfl, ?_⟩
  by_cases ht0 : A 3 (y * 11 + x) = t
  · unfold I_X8_changeCorner I_X12_lays
    rw [e, if_pos ht0, if_pos ht0]
    exact k
  · have hA : ∀ cz, cz ≠ 3 ∧ cz ≠ 16 → ∀ j, I_X8_changeCorner A x y t cz j = A cz j := fun cz hz j => fr_X8_changeCorner A x y t hz j
    have hB : ∀ cz, cz ≠ 118 → ∀ j, I_X12_lays B x y t w h cz j = B cz j := fun cz hz j => fr_X12_lays B x y t w h hz j
    have hQ : ∀ j, j < 243 ∨ 343 ≤ j → I_X12_lays B x y t w h 118 j = if j = 22 + 11 * y + x then t else B 118 j := fun j hj => fs_lays k.twh hj
    have hA3 : ∀ j, I_X8_changeCorner A x y t 3 j = if j = y * 11 + x then t else A 3 j := fun j => tq_cc3 A x y t j
    have hA16 : ∀ j, I_X8_changeCorner A x y t 16 j = if x ≤ j % 10 + 1 ∧ j % 10 + 1 ≤ x + 1 ∧ y ≤ j / 10 + 1 ∧ j / 10 + 1 ≤ y + 1 ∧ tw_in w h j then nI 1 else A 16 j := by
      intro j
      unfold I_X8_changeCorner
      rw [if_neg ht0, tw_tb ((tq_u_cell (by decide)).trans k.D.1) ((tq_u_cell (by decide)).trans k.D.2) hw.2.1 hw.2.2.2 (by omega) (by omega) (by omega) (by omega), tq_u_cell (by decide)]
    have hB243 : ∀ j, j < 100 → I_X12_lays B x y t w h 118 (243 + j) = if x ≤ j % 10 + 1 ∧ j % 10 + 1 ≤ x + 1 ∧ y ≤ j / 10 + 1 ∧ j / 10 + 1 ≤ y + 1 ∧ tw_in w h j then nI 1 else B 118 (243 + j) := by
      intro j hj
      unfold I_X12_lays
      rw [e, if_neg ht0, tw_ly4 (k.twh.cong (tq_u_slot (by omega)) (tq_u_slot (by omega))) (by omega) (by omega) j hj, tq_u_slot (by omega)]
    refine k.now (fun cz hz j => hA cz (by omega) j) hB (fun j hj => by rw [hQ j (by omega), if_neg (by omega)]) ?_
    obtain ⟨a1, a2, a3, a4, a5, a6, a7⟩ := k.1
    refine ⟨a1.cong (fun j _ => hA _ (by decide) j) (fun j hj => by show I_X12_lays B x y t w h 118 j = _; rw [hQ j (by omega), if_neg (by omega)]), ⟨fun x' y' hx' hy' => ?_, fun j hj => ?_⟩, a3.cong (fun j _ => hA _ (by decide) j) (fun j h1 h2 => by show I_X12_lays B x y t w h 118 j = _; rw [hQ j (by omega), if_neg (by omega)]), a4.cong (fun j _ => ⟨hA _ (by decide) j, hA _ (by decide) j⟩) (fun j h1 h2 => by show I_X12_lays B x y t w h 118 j = _; rw [hQ j (by omega), if_neg (by omega)]), a5.cong ⟨hA _ (by decide) _, hA _ (by decide) _⟩ (fun j _ => ⟨hA _ (by decide) j, hA _ (by decide) j⟩) (fun j _ => hA _ (by decide) j) (fun j h1 => by show I_X12_lays B x y t w h 118 j = _; rw [hQ j (by omega), if_neg (by omega)]), fun j hj => ?_, a7.cong (fun j _ => ⟨hA _ (by decide) j, hA _ (by decide) j⟩) (fun j _ => hA _ (by decide) j) (fun j h1 h2 => by show I_X12_lays B x y t w h 118 j = _; rw [hQ j (by omega), if_neg (by omega)])⟩
    · show I_X8_changeCorner A x y t 3 _ = I_X12_lays B x y t w h 118 _
      rw [hA3, hQ _ (by omega), k.T hx' hy']
      exact tw_if (by omega)
    · show 0 ≤ (I_X12_lays B x y t w h 118 (22 + j)).toInt ∧ (I_X12_lays B x y t w h 118 (22 + j)).toInt ≤ 5
      rw [hQ _ (by omega)]
      split
      · exact ht
      · exact k.Tr hj
    · show I_X8_changeCorner A x y t 16 j = I_X12_lays B x y t w h 118 (243 + j) ∧ (I_X12_lays B x y t w h 118 (243 + j) = 0 ∨ I_X12_lays B x y t w h 118 (243 + j) = 1) ∧ (¬ tw_in w h j → I_X12_lays B x y t w h 118 (243 + j) = 0)
      obtain ⟨b1, b2, b3⟩ := k.X hj
      rw [hA16, hB243 j hj, b1]
      refine ⟨rfl, ?_, fun hn => ?_⟩
      · split
        · exact Or.inr rfl
        · exact b2
      · rw [if_neg (fun q => hn q.2.2.2.2)]
        exact b3 hn
end TWT
