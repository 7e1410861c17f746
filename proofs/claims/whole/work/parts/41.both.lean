/-! BOTH SIDES AS ONE: what a state of the class and one of the reference have in common -/
theorem tw_itI {α : Type} {f : Nat → α → α} (P : Nat → α → Prop) : ∀ (n i : Nat) (a : α), P 0 a → (∀ j b, j < n → P j b → P (j + 1) (f (i + j) b)) → P n (tq_it f n i a)
  | 0, _, _, h0, _ => h0
  | n + 1, i, a, h0, hs => by
    rw [tq_its]
    refine tw_itI (fun j b => P (j + 1) b) n (i + 1) (f i a) (hs 0 a (by omega) h0) (fun j b hj hb => ?_)
    have := hs (j + 1) b (by omega) hb
    rwa [show i + (j + 1) = i + 1 + j by omega] at this
theorem tw_it0 {α : Type} {f : Nat → α → α} (P : Nat → α → Prop) (n : Nat) (a : α) (h0 : P 0 a) (hs : ∀ j b, j < n → P j b → P (j + 1) (f j b)) : P n (tq_it f n 0 a) :=
  tw_itI P n 0 a h0 (fun j b hj hb => by rw [Nat.zero_add]; exact hs j b hj hb)
theorem tw_it2 {α β : Type} {f : Nat → α → α} {g : Nat → β → β} (R : Nat → α → β → Prop) : ∀ (n i i' : Nat) (a : α) (b : β), R 0 a b → (∀ j x y, j < n → R j x y → R (j + 1) (f (i + j) x) (g (i' + j) y)) → R n (tq_it f n i a) (tq_it g n i' b)
  | 0, _, _, _, _, h0, _ => h0
  | n + 1, i, i', a, b, h0, hs => by
    rw [tq_its, tq_its]
    refine tw_it2 (fun j x y => R (j + 1) x y) n (i + 1) (i' + 1) (f i a) (g i' b) (hs 0 a b (by omega) h0) (fun j x y hj hb => ?_)
    have := hs (j + 1) x y (by omega) hb
    rwa [show i + (j + 1) = i + 1 + j by omega, show i' + (j + 1) = i' + 1 + j by omega] at this
theorem tw_it20 {α β : Type} {f : Nat → α → α} {g : Nat → β → β} (R : Nat → α → β → Prop) (n : Nat) (a : α) (b : β) (h0 : R 0 a b) (hs : ∀ j x y, j < n → R j x y → R (j + 1) (f j x) (g j y)) : R n (tq_it f n 0 a) (tq_it g n 0 b) :=
  tw_it2 R n 0 0 a b h0 (fun j x y hj hb => by rw [Nat.zero_add]; exact hs j x y hj hb)
theorem tw_ita {α : Type} (f : Nat → α → α) : ∀ (n m i : Nat) (a : α), tq_it f (n + m) i a = tq_it f m (i + n) (tq_it f n i a)
  | 0, m, i, a => by rw [Nat.zero_add]; rfl
  | n + 1, m, i, a => by
    rw [show n + 1 + m = n + m + 1 by omega, tq_its, tw_ita f n m (i + 1) (f i a), tq_its, show i + (n + 1) = i + 1 + n by omega]
/-- rows of w in the class, all of W places in the reference -/
theorem tw_row {α β : Type} {F : Nat → α → α} {G : Nat → β → β} (R : Nat → α → β → Prop) {W w o : Nat} (hw : w ≤ W)
    (hin : ∀ x a b, x < w → R (o + x) a b → R (o + x + 1) (F x a) (G (o + x) b)) (hout : ∀ x a b, w ≤ x → x < W → R (o + x) a b → R (o + x + 1) a (G (o + x) b)) {a : α} {b : β} (h0 : R o a b) : R (o + W) (tq_it F w 0 a) (tq_it G W o b) := by
  have h1 : R (o + w) (tq_it F w 0 a) (tq_it G w o b) := tw_it2 (fun j x y => R (o + j) x y) w 0 o a b h0 (fun j x y hj hb => by rw [Nat.zero_add]; exact hin j x y hj hb)
  have e : tq_it G W o b = tq_it G (W - w) (o + w) (tq_it G w o b) := by rw [← tw_ita]; congr 1; omega
  rw [e]
  have h2 : R (o + w + (W - w)) (tq_it F w 0 a) (tq_it G (W - w) (o + w) (tq_it G w o b)) := tw_itI (fun j y => R (o + w + j) (tq_it F w 0 a) y) (W - w) (o + w) _ h1 (fun j y hj hb => by
    have := hout (w + j) (tq_it F w 0 a) y (by omega) (by omega) (by rw [show o + (w + j) = o + w + j by omega]; exact hb)
    rwa [show o + (w + j) = o + w + j by omega] at this)
  rwa [show o + w + (W - w) = o + W by omega] at h2
theorem tw_nest {α β : Type} {F : Nat → Nat → α → α} {F2 : Nat → α → α} {G : Nat → β → β} (R : Nat → α → β → Prop) {W H w h : Nat} (hw : w ≤ W) (hh : h ≤ H) (hF : ∀ y a, F2 y a = tq_it (F y) w 0 a)
    (hin : ∀ x y a b, x < w → y < h → R (y * W + x) a b → R (y * W + x + 1) (F y x a) (G (y * W + x) b)) (hout : ∀ x y a b, x < W → y < H → ¬ (x < w ∧ y < h) → R (y * W + x) a b → R (y * W + x + 1) a (G (y * W + x) b)) {a : α} {b : β} (h0 : R 0 a b) : R (H * W) (tq_it F2 h 0 a) (tq_it G (H * W) 0 b) := by
  have key : ∀ y, y ≤ h → R (y * W) (tq_it F2 y 0 a) (tq_it G (y * W) 0 b) := by
    intro y
    induction y with
    | zero => intro _; rw [Nat.zero_mul]; exact h0
    | succ y ih =>
      intro hy
      have h1 := ih (by omega)
      rw [show (y + 1) * W = y * W + W from Nat.succ_mul y W, tw_ita G, tw_ita F2 y 1, Nat.zero_add, Nat.zero_add]
      show R _ (F2 y (tq_it F2 y 0 a)) _
      rw [hF]
      exact tw_row R hw (fun x a b hx hb => hin x y a b hx (by omega) hb) (fun x a b h1 h2 hb => hout x y a b h2 (by omega) (by omega) hb) h1
  have key2 : ∀ d, h + d ≤ H → R ((h + d) * W) (tq_it F2 h 0 a) (tq_it G ((h + d) * W) 0 b) := by
    intro d
    induction d with
    | zero => intro _; exact key h (Nat.le_refl _)
    | succ d ih =>
      intro hd
      have h1 := ih (by omega)
      rw [show (h + (d + 1)) * W = (h + d) * W + W from Nat.succ_mul (h + d) W, tw_ita G, Nat.zero_add]
      have h2 : R ((h + d) * W + W) (tq_it F2 h 0 a) (tq_it G W ((h + d) * W) (tq_it G ((h + d) * W) 0 b)) := tw_itI (fun j y => R ((h + d) * W + j) (tq_it F2 h 0 a) y) W ((h + d) * W) _ h1 (fun j y hj hb => hout j (h + d) _ y hj (by omega) (by omega) hb)
      exact h2
  have := key2 (H - h) (by omega)
  rwa [show h + (H - h) = H by omega] at this
theorem tw_ix {f : Nat → Int32} {i j : Nat} (h : i = j) : f i = f j := h ▸ rfl
/-- a piece's number in the reference, by its number in the class -/
def tw_rc (n : Nat) : Nat := if n % 64 < 56 then n / 64 + 8 * (n % 64 / 4 + 1) + 128 * (n % 64 % 4) else n / 64 + 8 * 15 + 512 * (n % 64 - 56)
def tw_cr (n : Nat) : Nat := if n / 8 % 16 = 15 then n % 8 * 64 + 56 + n / 512 else n % 8 * 64 + (n / 8 % 16 - 1) * 4 + n / 128 % 4
theorem tw_crc : ∀ n, n < 384 → tw_cr (tw_rc n) = n ∧ tw_rc n < 4096 := by decide +kernel
theorem tw_rc_inj {a b : Nat} (ha : a < 384) (hb : b < 384) (h : tw_rc a = tw_rc b) : a = b := by
  rw [← (tw_crc a ha).1, h, (tw_crc b hb).1]
theorem tw_prop : ∀ n, n < 384 → ∀ q, q < 4 → r_X11_propertyOfPiece (nI n) (nI q) = r_X12_ofPiece (nI (tw_rc n)) (nI q) := by decide +kernel
/-! the picture of a state: P k the class's cells (k behind its own), Q the reference's row -/
abbrev tw_in (w h j : Nat) : Prop := j % 10 < w ∧ j / 10 < h
def tw_D (P : Nat → Nat → Int32) (Q : Nat → Int32) (w h : Nat) : Prop := P 1 0 = nI w ∧ P 1 1 = nI h ∧ Q 0 = nI w ∧ Q 1 = nI h ∧ 1 ≤ w ∧ w ≤ 10 ∧ 1 ≤ h ∧ h ≤ 10
def tw_T (P : Nat → Nat → Int32) (Q : Nat → Int32) (w h : Nat) : Prop := (∀ x y, x ≤ w → y ≤ h → P 2 (y * 11 + x) = Q (22 + (y * 11 + x))) ∧ ∀ j, j < 121 → 0 ≤ (Q (22 + j)).toInt ∧ (Q (22 + j)).toInt ≤ 5
def tw_P (P : Nat → Nat → Int32) (Q : Nat → Int32) (w h : Nat) : Prop := ∀ j, j < 100 → P 3 j = Q (143 + j) ∧ (Q (143 + j) = 0 ∨ Q (143 + j) = 1) ∧ (¬ tw_in w h j → Q (143 + j) = 0)
def tw_K (P : Nat → Nat → Int32) (Q : Nat → Int32) : Prop := ∃ e f : Nat → Nat, (∀ r, r < 6 → e r < 6 ∧ f (e r) = r ∧ P 6 r = nI (e r) ∧ Q (4 + r) = nI (e r)) ∧ ∀ t, t < 6 → f t < 6 ∧ e (f t) = t ∧ P 5 t = nI (f t)
def tw_U (P : Nat → Nat → Int32) (Q : Nat → Int32) : Prop := (∀ t, t < 6 → tm_tiles (P 9 t) (fun m => P 10 (t * 16 + m)) ∧ P 9 t = Q (10 + t) ∧ P 7 t = Q (16 + t) ∧ 1 ≤ (P 7 t).toInt ∧ (P 7 t).toInt ≤ 8) ∧ P 4 4 = Q 2 ∧ P 4 5 = Q 3 ∧ (P 4 5 = 0 ∨ P 4 5 = 1)
def tw_X (P : Nat → Nat → Int32) (Q : Nat → Int32) (w h : Nat) : Prop := ∀ j, j < 100 → P 15 j = Q (243 + j) ∧ (Q (243 + j) = 0 ∨ Q (243 + j) = 1) ∧ (¬ tw_in w h j → Q (243 + j) = 0)
def tw_V (P : Nat → Nat → Int32) (Q : Nat → Int32) (w h : Nat) : Prop := ∀ j, j < 100 → P 12 j = Q (343 + 10 * j) ∧ (0 ≤ (P 12 j).toInt ∧ (P 12 j).toInt ≤ 7) ∧ P 14 j = Q (343 + 10 * j + 1) ∧ (¬ tw_in w h j → P 12 j = 0) ∧ ∀ k, k < tq_N (P 12 j) → (0 ≤ (P 13 (j * 7 + k)).toInt ∧ (P 13 (j * 7 + k)).toInt ≤ 383) ∧ Q (343 + 10 * j + 2 + k) = nI (tw_rc (tq_N (P 13 (j * 7 + k))))
def tw_St (P : Nat → Nat → Int32) (Q : Nat → Int32) (w h : Nat) : Prop := tw_D P Q w h ∧ tw_T P Q w h ∧ tw_P P Q w h ∧ tw_K P Q ∧ tw_U P Q ∧ tw_X P Q w h ∧ tw_V P Q w h
/-- the places that the picture speaks of -/
def tw_rg (k j : Nat) : Prop := (k = 1 ∧ j < 2) ∨ (k = 2 ∧ j < 121) ∨ (k = 3 ∧ j < 100) ∨ (k = 4 ∧ (j = 4 ∨ j = 5)) ∨ ((k = 5 ∨ k = 6 ∨ k = 7) ∧ j < 6) ∨ (k = 9 ∧ j < 6) ∨ (k = 10 ∧ j < 96) ∨ (k = 12 ∧ j < 100) ∨ (k = 13 ∧ j < 700) ∨ ((k = 14 ∨ k = 15) ∧ j < 100)
theorem tm_tiles_cong {s : Int32} {Q Q' : Nat → Int32} (h : tm_tiles s Q) (e : ∀ m, 1 ≤ m → m < 16 → Q' m = Q m) : tm_tiles s Q' := by
  obtain ⟨h1, b, hb, h2, h3⟩ := h
  exact ⟨h1, b, hb, h2, fun m a c => by rw [e m a c]; exact h3 m a c⟩
section TWC
variable {P P' : Nat → Nat → Int32} {Q Q' : Nat → Int32} {w h : Nat}
theorem tw_D.cong (q : tw_D P Q w h) (hP : ∀ j, j < 2 → P' 1 j = P 1 j) (hQ : ∀ j, j < 2 → Q' j = Q j) : tw_D P' Q' w h := by
  unfold tw_D
  rw [hP 0 (by decide), hP 1 (by decide), hQ 0 (by decide), hQ 1 (by decide)]
  exact q
theorem tw_T.cong (q : tw_T P Q w h) (hw : w ≤ 10) (hh : h ≤ 10) (hP : ∀ j, j < 121 → P' 2 j = P 2 j) (hQ : ∀ j, 22 ≤ j → j < 143 → Q' j = Q j) : tw_T P' Q' w h :=
  ⟨fun x y hx hy => by rw [hP _ (by omega), hQ _ (by omega) (by omega)]; exact q.1 x y hx hy, fun j hj => by rw [hQ _ (by omega) (by omega)]; exact q.2 j hj⟩
theorem tw_P.cong (q : tw_P P Q w h) (hP : ∀ j, j < 100 → P' 3 j = P 3 j) (hQ : ∀ j, 143 ≤ j → j < 243 → Q' j = Q j) : tw_P P' Q' w h := fun j hj => by
  rw [hP j hj, hQ _ (by omega) (by omega)]; exact q j hj
theorem tw_K.cong (q : tw_K P Q) (hP : ∀ j, j < 6 → P' 5 j = P 5 j ∧ P' 6 j = P 6 j) (hQ : ∀ j, 4 ≤ j → j < 10 → Q' j = Q j) : tw_K P' Q' := by
  obtain ⟨e, f, h1, h2⟩ := q
  refine ⟨e, f, fun r hr => ?_, fun t ht => ?_⟩
  · rw [(hP r hr).2, hQ _ (by omega) (by omega)]; exact h1 r hr
  · rw [(hP t ht).1]; exact h2 t ht
theorem tw_U.cong (q : tw_U P Q) (h4 : P' 4 4 = P 4 4 ∧ P' 4 5 = P 4 5) (h7 : ∀ j, j < 6 → P' 7 j = P 7 j ∧ P' 9 j = P 9 j) (h10 : ∀ j, j < 96 → P' 10 j = P 10 j) (hQ : ∀ j, j < 4 ∨ (10 ≤ j ∧ j < 22) → Q' j = Q j) : tw_U P' Q' := by
  refine ⟨fun t ht => ?_, ?_⟩
  · obtain ⟨a1, a2, a3, a4⟩ := q.1 t ht
    rw [(h7 t ht).1, (h7 t ht).2, hQ _ (by omega), hQ _ (by omega)]
    exact ⟨tm_tiles_cong a1 (fun m _ _ => h10 _ (by omega)), a2, a3, a4⟩
  · rw [h4.1, h4.2, hQ 2 (by omega), hQ 3 (by omega)]; exact q.2
theorem tw_X.cong (q : tw_X P Q w h) (hP : ∀ j, j < 100 → P' 15 j = P 15 j) (hQ : ∀ j, 243 ≤ j → j < 343 → Q' j = Q j) : tw_X P' Q' w h := fun j hj => by
  rw [hP j hj, hQ _ (by omega) (by omega)]; exact q j hj
theorem tw_V.cong (q : tw_V P Q w h) (h12 : ∀ j, j < 100 → P' 12 j = P 12 j ∧ P' 14 j = P 14 j) (h13 : ∀ j, j < 700 → P' 13 j = P 13 j) (hQ : ∀ j, 343 ≤ j → j < 1343 → Q' j = Q j) : tw_V P' Q' w h := fun j hj => by
  obtain ⟨a1, a2, a3, a4, a5⟩ := q j hj
  rw [(h12 j hj).1, (h12 j hj).2, hQ _ (by omega) (by omega), hQ _ (by omega) (by omega)]
  refine ⟨a1, a2, a3, a4, fun k hk => ?_⟩
  have h7 : k < 7 := by unfold tq_N at hk; omega
  rw [h13 _ (by omega), hQ _ (by omega) (by omega)]
  exact a5 k hk
theorem tw_St.cong (q : tw_St P Q w h) (hP : ∀ k j, tw_rg k j → P' k j = P k j) (hQ : ∀ j, j < 1343 → Q' j = Q j) : tw_St P' Q' w h := by
  obtain ⟨a1, a2, a3, a4, a5, a6, a7⟩ := q
  have hw := a1.2.2.2.2.2.1
  have hh := a1.2.2.2.2.2.2.2
  refine ⟨a1.cong (fun j hj => hP _ _ ?_) (fun j hj => hQ _ (by omega)), a2.cong hw hh (fun j hj => hP _ _ ?_) (fun j h1 h2 => hQ _ (by omega)), a3.cong (fun j hj => hP _ _ ?_) (fun j h1 h2 => hQ _ (by omega)), a4.cong (fun j hj => ⟨hP _ _ ?_, hP _ _ ?_⟩) (fun j h1 h2 => hQ _ (by omega)), a5.cong ⟨hP _ _ ?_, hP _ _ ?_⟩ (fun j hj => ⟨hP _ _ ?_, hP _ _ ?_⟩) (fun j hj => hP _ _ ?_) (fun j h1 => hQ _ (by omega)), a6.cong (fun j hj => hP _ _ ?_) (fun j h1 h2 => hQ _ (by omega)), a7.cong (fun j hj => ⟨hP _ _ ?_, hP _ _ ?_⟩) (fun j hj => hP _ _ ?_) (fun j h1 h2 => hQ _ (by omega))⟩ <;> unfold tw_rg <;> omega
end TWC
/-! copies of states -/
theorem tw_cp_in {I : tq_I} {a b n j : Nat} (h : j < n) : tq_cp I a 0 b 0 n b j = I a j := by
  unfold tq_cp
  rw [if_pos ⟨rfl, Nat.zero_le _, by omega⟩, Nat.zero_add, Nat.sub_zero]
theorem tw_cpSt {I : tq_I} {a b k j : Nat} (hab : a + 16 ≤ b ∨ b + 16 ≤ a) (h : tw_rg k j) : tq_cpSt I a b (a + k) j = I (b + k) j := by
  rcases h with ⟨rfl, h⟩ | ⟨rfl, h⟩ | ⟨rfl, h⟩ | ⟨rfl, h⟩ | ⟨rfl | rfl | rfl, h⟩ | ⟨rfl, h⟩ | ⟨rfl, h⟩ | ⟨rfl, h⟩ | ⟨rfl, h⟩ | ⟨rfl | rfl, h⟩
  · rcases (show j = 0 ∨ j = 1 by omega) with rfl | rfl <;> simp (disch := omega) only [tq_cpSt, tq_cpCanvas, tq_cpRules, tq_cpRules5, tq_cpRules4, tq_cpRules3, tq_cpTiles, tq_cpLand, tq_cp_cell, tq_u_cell, tq_u_slot, tq_u_same]
  · simp (disch := omega) only [tq_cpSt, tq_cpCanvas, tq_cpRules, tq_cpRules5, tq_cpRules4, tq_cpRules3, tq_cpTiles, tq_cpLand, tq_cp_cell, tq_u_cell, tq_u_slot, tq_u_same, Nat.add_assoc, Nat.reduceAdd, tw_cp_in]
  · simp (disch := omega) only [tq_cpSt, tq_cpCanvas, tq_cpRules, tq_cpRules5, tq_cpRules4, tq_cpRules3, tq_cpTiles, tq_cpLand, tq_cp_cell, tq_u_cell, tq_u_slot, tq_u_same, Nat.add_assoc, Nat.reduceAdd, tw_cp_in]
  · rcases h with rfl | rfl <;> simp (disch := omega) only [tq_cpSt, tq_cpCanvas, tq_cpRules, tq_cpRules5, tq_cpRules4, tq_cpRules3, tq_cpTiles, tq_cpLand, tq_cp_cell, tq_u_cell, tq_u_slot, tq_u_same, Nat.add_assoc, Nat.reduceAdd, tw_cp_in]
  all_goals simp (disch := omega) only [tq_cpSt, tq_cpCanvas, tq_cpRules, tq_cpRules5, tq_cpRules4, tq_cpRules3, tq_cpTiles, tq_cpLand, tq_cp_cell, tq_u_cell, tq_u_slot, tq_u_same, Nat.add_assoc, Nat.reduceAdd, tw_cp_in]
/-! the two histories, the texts, the rest -/
abbrev tw_now (A : tq_I) : Nat → Nat → Int32 := fun k j => A (1 + k) j
abbrev tw_ring (A : tq_I) (m : Nat) : Nat → Nat → Int32 := fun k j => A (19 + 16 * m + k) j
abbrev tw_row0 (B : tq_I) : Nat → Int32 := fun j => B 118 j
abbrev tw_rows (B : tq_I) (s : Nat) : Nat → Int32 := fun j => B 118 (1343 * s + j)
def tw_his (A B : tq_I) (o c : Nat) : Prop := ∀ i, i < c → ∃ w h, tw_St (tw_ring A ((o + i) % 5)) (tw_rows B (i + 1)) w h
def tw_cnt (A B : tq_I) (o c : Nat) : Prop := A 17 1 = nI o ∧ A 17 2 = nI c ∧ B 117 1 = nI c ∧ o < 5 ∧ c ≤ 5 ∧ ∀ k, k < 5 → A (23 + 16 * k) 5 = 0 ∨ A (23 + 16 * k) 5 = 1
def tw_txt (A B : tq_I) (L : Nat) : Prop := A 111 1 = nI L ∧ B 117 3 = nI L ∧ L ≤ 150 ∧ ∀ j, j < L → A 112 j = B 119 j ∧ 0 ≤ (A 112 j).toInt ∧ (A 112 j).toInt ≤ 255
def tw_out (A B : tq_I) : Prop := ∃ m, m ≤ 150 ∧ A 113 1 = nI m ∧ B 117 5 = nI m ∧ ∀ j, j < m → A 114 j = B 120 j
def tw_mis (A B : tq_I) : Prop := ((∀ k, k < 121 → 0 ≤ (A 101 k).toInt ∧ (A 101 k).toInt ≤ 120) ∧ 0 ≤ (A 99 2).toInt ∧ (A 99 2).toInt ≤ 121) ∧ tq_rd A ∧ (0 ≤ (B 117 21).toInt ∧ (B 117 21).toInt ≤ 11) ∧ (0 ≤ (B 117 23).toInt ∧ (B 117 23).toInt ≤ 11) ∧ (∀ j, j < 121 → 0 ≤ (B 130 j).toInt ∧ (B 130 j).toInt ≤ 5) ∧ ∀ j, j < 8 → B 122 j = tq_aside.getD j 0 ∧ B 123 j = tq_down.getD j 0
/-- ALL: class and reference stand alike -/
def tw_inv (A B : tq_I) (w h o c L : Nat) : Prop := tw_St (tw_now A) (tw_row0 B) w h ∧ tw_his A B o c ∧ tw_cnt A B o c ∧ tw_txt A B L ∧ tw_out A B ∧ tw_mis A B
