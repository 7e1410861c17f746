/-! both fresh objects stand alike -/
theorem tx_mi1 (I : tq_I) : (∀ cz, cz ≠ 118 → ∀ j, tq_it f_mi1 6 0 I cz j = I cz j) ∧ (∀ j, j < 4 → tq_it f_mi1 6 0 I 118 j = I 118 j) ∧ ∀ t, t < 6 → tq_it f_mi1 6 0 I 118 (4 + t) = nI t ∧ tq_it f_mi1 6 0 I 118 (10 + t) = nI 65534 ∧ tq_it f_mi1 6 0 I 118 (16 + t) = nI 1 := by
  refine tw_it0 (f := f_mi1) (fun n (z : tq_I) => (∀ cz, cz ≠ 118 → ∀ j, z cz j = I cz j) ∧ (∀ j, j < 4 → z 118 j = I 118 j) ∧ ∀ t, t < n → z 118 (4 + t) = nI t ∧ z 118 (10 + t) = nI 65534 ∧ z 118 (16 + t) = nI 1) 6 I ⟨fun _ _ _ => rfl, fun _ _ => rfl, fun t ht => absurd ht (Nat.not_lt_zero t)⟩ (fun n z hn hz => ?_)
  obtain ⟨z1, z2, z3⟩ := hz
  unfold f_mi1
  refine ⟨fun cz hc j => by rw [tq_u_cell hc, tq_u_cell hc, tq_u_cell hc]; exact z1 cz hc j, fun j hj => by rw [tq_u_slot (by omega), tq_u_slot (by omega), tq_u_slot (by omega)]; exact z2 j hj, fun t ht => ?_⟩
  by_cases e : t = n
  · subst e
    refine ⟨?_, ?_, tq_u_same⟩
    · rw [tq_u_slot (by omega), tq_u_slot (by omega), tq_u_same]
    · rw [tq_u_slot (by omega), tq_u_same]
  · obtain ⟨y1, y2, y3⟩ := z3 t (by omega)
    refine ⟨?_, ?_, ?_⟩
    · rw [tq_u_slot (by omega), tq_u_slot (by omega), tq_u_slot (by omega)]; exact y1
    · rw [tq_u_slot (by omega), tq_u_slot (by omega), tq_u_slot (by omega)]; exact y2
    · rw [tq_u_slot (by omega), tq_u_slot (by omega), tq_u_slot (by omega)]; exact y3
theorem tx_til0 : ∀ m, m < 16 → 1 ≤ m → bt (nI 65534) (tm_fl m 0) = true ∧ bt (nI (tq_dr 31)) m = true ∧ (nI 1) <<< ((nI m) &&& 31) = nI (tq_ft 31 m) := by decide +kernel
theorem tx_tiles {Q : Nat → Int32} (hQ : ∀ m, 1 ≤ m → m < 16 → Q m = (nI 1) <<< ((nI m) &&& 31)) : tm_tiles (nI 65534) Q := by
  refine ⟨by decide +kernel, 31, by decide, fun m h1 h2 => ⟨fun _ => ⟨0, by decide, (tx_til0 m h2 h1).1⟩, fun _ => (tx_til0 m h2 h1).2.1⟩, fun m h1 h2 => by rw [hQ m h1 h2]; exact (tx_til0 m h2 h1).2.2⟩
theorem tw_fresh {I0 I1 A B : tq_I} (h0 : ∀ a j, a < 117 → I0 a j = tx_I0 a j) (h1 : ∀ a j, 117 ≤ a → a < 131 → I1 a j = tx_TM a j) (hA : ∀ a j, a < 117 → A a j = I_X8_startMap I0 4 4 (nI 0) a j) (hB : ∀ a j, 117 ≤ a → a < 131 → B a j = I_X12_begins (tq_it f_mi1 6 0 I1) 4 4 a j) : tw_inv A B 4 4 0 0 0 := by
  obtain ⟨p1, p2, p3⟩ := tw_start (I := I0) (w := 4) (h := 4) (t := nI 0) (by decide) (by decide)
  obtain ⟨q1, q2, q3, q4⟩ := tw_begins (B := tq_it f_mi1 6 0 I1) (w := 4) (h := 4) (by decide) (by decide)
  obtain ⟨m1, m2, m3⟩ := tx_mi1 I1
  have fA : ∀ cz, cz < 117 → cz ≠ 2 → cz ≠ 3 → cz ≠ 4 → cz ≠ 13 → cz ≠ 15 → cz ≠ 16 → ∀ j, A cz j = tx_I0 cz j := fun cz hc z1 z2 z3 z4 z5 z6 j => by rw [hA cz j hc, fr_X8_startMap _ _ _ _ ⟨z1, z2, z3, z4, z5, z6⟩]; exact h0 cz j hc
  have fB : ∀ cz, 117 ≤ cz → cz < 131 → cz ≠ 118 → ∀ j, B cz j = tx_TM cz j := fun cz z1 z2 z3 j => by rw [hB cz j z1 z2, fr_X12_begins _ _ _ z3, m1 cz z3]; exact h1 cz j z1 z2
  have b118 : ∀ j, B 118 j = I_X12_begins (tq_it f_mi1 6 0 I1) 4 4 118 j := fun j => hB 118 j (by decide) (by decide)
  have a6 : ∀ t, t < 6 → A 6 t = nI t := fun t ht => by rw [fA 6 (by decide) (by decide) (by decide) (by decide) (by decide) (by decide) (by decide)]; unfold tx_I0; rw [if_pos ⟨Or.inl (by decide), ht⟩]
  have a7 : ∀ t, t < 6 → A 7 t = nI t := fun t ht => by rw [fA 7 (by decide) (by decide) (by decide) (by decide) (by decide) (by decide) (by decide)]; unfold tx_I0; rw [if_pos ⟨Or.inr (by decide), ht⟩]
  have a8 : ∀ t, t < 6 → A 8 t = nI 1 := fun t ht => by rw [fA 8 (by decide) (by decide) (by decide) (by decide) (by decide) (by decide) (by decide)]; unfold tx_I0; rw [if_neg (fun z => absurd z.1 (by decide)), if_pos ⟨by decide, ht⟩]
  have a10 : ∀ t, t < 6 → A 10 t = nI 65534 := fun t ht => by rw [fA 10 (by decide) (by decide) (by decide) (by decide) (by decide) (by decide) (by decide)]; unfold tx_I0; rw [if_neg (fun z => absurd z.1 (by decide)), if_neg (fun z => absurd z.1 (by decide)), if_pos ⟨by decide, ht⟩]
  have a11 : ∀ j, j < 96 → j % 16 ≠ 0 → A 11 j = (nI 1) <<< ((nI (j % 16)) &&& 31) := fun j hj hm => by rw [fA 11 (by decide) (by decide) (by decide) (by decide) (by decide) (by decide) (by decide)]; unfold tx_I0; rw [if_neg (fun z => absurd z.1 (by decide)), if_neg (fun z => absurd z.1 (by decide)), if_neg (fun z => absurd z.1 (by decide)), if_pos ⟨by decide, hj, hm⟩]
  have b4 : ∀ t, t < 6 → B 118 (4 + t) = nI t ∧ B 118 (10 + t) = nI 65534 ∧ B 118 (16 + t) = nI 1 := fun t ht => by
    rw [b118, b118, b118, q2 _ (by omega), q2 _ (by omega), q2 _ (by omega)]; exact m3 t ht
  have z0 : (0 : Int32) = nI 0 := by decide
  have aZ : ∀ cz, cz < 117 → cz ≠ 2 → cz ≠ 3 → cz ≠ 4 → cz ≠ 13 → cz ≠ 15 → cz ≠ 16 → (tx_off cz ≠ 5 ∧ tx_off cz ≠ 6 ∧ tx_off cz ≠ 7 ∧ tx_off cz ≠ 9 ∧ tx_off cz ≠ 10) → ∀ j, A cz j = nI 0 := fun cz hc z1 z2 z3 z4 z5 z6 ho j => by rw [fA cz hc z1 z2 z3 z4 z5 z6, tx_I00 ho]; exact z0
  have bZ : ∀ cz, 117 ≤ cz → cz < 131 → cz ≠ 118 → cz ≠ 122 → cz ≠ 123 → ∀ j, B cz j = nI 0 := fun cz z1 z2 z3 z4 z5 j => by rw [fB cz z1 z2 z3, tx_TM0 ⟨z4, z5⟩]; exact z0
  have n0 : 0 ≤ (nI 0).toInt ∧ (nI 0).toInt ≤ 0 := by decide
  refine ⟨⟨⟨?_, ?_, ?_, ?_, by decide, by decide, by decide, by decide⟩, ⟨fun x y hx hy => ?_, fun j hj => ?_⟩, fun j hj => ?_, ⟨id, id, fun r hr => ?_, fun t ht => ?_⟩, ⟨fun t ht => ?_, ?_⟩, fun j hj => ?_, fun j hj => ?_⟩, fun i hi => absurd hi (Nat.not_lt_zero i), ⟨?_, ?_, ?_, by decide, by decide, fun k hk => ?_⟩, ⟨?_, ?_, by decide, fun j hj => absurd hj (Nat.not_lt_zero j)⟩, ⟨0, by decide, ?_, ?_, fun j hj => absurd hj (Nat.not_lt_zero j)⟩, ⟨⟨fun k hk => ?_, ?_⟩, fun j hj => ?_, ?_, ?_, fun j hj => ?_, fun j hj => ?_⟩⟩
  · show A 2 0 = nI 4; rw [hA 2 0 (by decide)]; exact p1.1
  · show A 2 1 = nI 4; rw [hA 2 1 (by decide)]; exact p1.2
  · show B 118 0 = nI 4; rw [b118]; exact q1.1
  · show B 118 1 = nI 4; rw [b118]; exact q1.2
  · show A 3 (y * 11 + x) = B 118 (22 + (y * 11 + x))
    rw [hA 3 _ (by decide), p2 _ (by omega), b118, q3 _ (by omega) (by omega)]
  · show 0 ≤ (B 118 (22 + j)).toInt ∧ (B 118 (22 + j)).toInt ≤ 5
    rw [b118, q3 _ (by omega) (by omega)]; decide
  · show A 4 j = B 118 (143 + j) ∧ (B 118 (143 + j) = 0 ∨ B 118 (143 + j) = 1) ∧ (¬ tw_in 4 4 j → B 118 (143 + j) = 0)
    rw [hA 4 _ (by decide), (p3 j hj).1, b118, q3 _ (by omega) (by omega)]
    exact ⟨rfl, Or.inl z0.symm, fun _ => z0.symm⟩
  · exact ⟨hr, rfl, a7 r hr, (b4 r hr).1⟩
  · exact ⟨ht, rfl, a6 t ht⟩
  · show tm_tiles (A 10 t) (fun m => A 11 (t * 16 + m)) ∧ A 10 t = B 118 (10 + t) ∧ A 8 t = B 118 (16 + t) ∧ 1 ≤ (A 8 t).toInt ∧ (A 8 t).toInt ≤ 8
    rw [a10 t ht, a8 t ht, (b4 t ht).2.1, (b4 t ht).2.2]
    exact ⟨tx_tiles (fun m g1 g2 => by rw [a11 _ (by omega) (by omega), show (t * 16 + m) % 16 = m by omega]), rfl, rfl, by decide, by decide⟩
  · show A 5 4 = B 118 2 ∧ A 5 5 = B 118 3 ∧ (A 5 5 = 0 ∨ A 5 5 = 1)
    rw [aZ 5 (by decide) (by decide) (by decide) (by decide) (by decide) (by decide) (by decide) (by decide), aZ 5 (by decide) (by decide) (by decide) (by decide) (by decide) (by decide) (by decide) (by decide), b118, b118, q2 _ (by omega), q2 _ (by omega), m2 2 (by decide), m2 3 (by decide), h1 118 _ (by decide) (by decide), h1 118 _ (by decide) (by decide), tx_TM0 (by decide), tx_TM0 (by decide)]
    exact ⟨z0.symm, z0.symm, Or.inl z0.symm⟩
  · show A 16 j = B 118 (243 + j) ∧ (B 118 (243 + j) = 0 ∨ B 118 (243 + j) = 1) ∧ (¬ tw_in 4 4 j → B 118 (243 + j) = 0)
    rw [hA 16 _ (by decide), (p3 j hj).2.2.2, b118, (q4 j hj).1]
    refine ⟨rfl, ?_, fun hn => by rw [if_neg hn]; rfl⟩
    split
    · exact Or.inr rfl
    · exact Or.inl rfl
  · show A 13 j = B 118 (343 + 10 * j) ∧ (0 ≤ (A 13 j).toInt ∧ (A 13 j).toInt ≤ 7) ∧ A 15 j = B 118 (343 + 10 * j + 1) ∧ (¬ tw_in 4 4 j → A 13 j = 0) ∧ _
    have e13 : A 13 j = nI 0 := by rw [hA 13 _ (by decide)]; exact (p3 j hj).2.1
    rw [e13, hA 15 _ (by decide), (p3 j hj).2.2.1, b118, b118, (q4 j hj).2.1, (q4 j hj).2.2]
    refine ⟨rfl, by decide, rfl, fun _ => rfl, fun q hq => ?_⟩
    have hq' : q < tq_N (A 13 j) := hq
    rw [e13] at hq'
    exact absurd hq' (by rw [tq_N_nI (by decide)]; omega)
  · exact aZ 17 (by decide) (by decide) (by decide) (by decide) (by decide) (by decide) (by decide) (by decide) _
  · exact aZ 17 (by decide) (by decide) (by decide) (by decide) (by decide) (by decide) (by decide) (by decide) _
  · exact bZ 117 (by decide) (by decide) (by decide) (by decide) (by decide) _
  · left
    rw [aZ (23 + 16 * k) (by omega) (by omega) (by omega) (by omega) (by omega) (by omega) (by omega) ((show ∀ k, k < 5 → tx_off (23 + 16 * k) ≠ 5 ∧ tx_off (23 + 16 * k) ≠ 6 ∧ tx_off (23 + 16 * k) ≠ 7 ∧ tx_off (23 + 16 * k) ≠ 9 ∧ tx_off (23 + 16 * k) ≠ 10 by decide) k hk)]
    decide
  · exact aZ 111 (by decide) (by decide) (by decide) (by decide) (by decide) (by decide) (by decide) (by decide) _
  · exact bZ 117 (by decide) (by decide) (by decide) (by decide) (by decide) _
  · exact aZ 113 (by decide) (by decide) (by decide) (by decide) (by decide) (by decide) (by decide) (by decide) _
  · exact bZ 117 (by decide) (by decide) (by decide) (by decide) (by decide) _
  · rw [aZ 101 (by decide) (by decide) (by decide) (by decide) (by decide) (by decide) (by decide) (by decide)]; decide
  · rw [aZ 99 (by decide) (by decide) (by decide) (by decide) (by decide) (by decide) (by decide) (by decide)]; decide
  · rw [aZ 116 (by decide) (by decide) (by decide) (by decide) (by decide) (by decide) (by decide) (by decide)]; decide
  · rw [bZ 117 (by decide) (by decide) (by decide) (by decide) (by decide)]; decide
  · rw [bZ 117 (by decide) (by decide) (by decide) (by decide) (by decide)]; decide
  · rw [bZ 130 (by decide) (by decide) (by decide) (by decide) (by decide)]; decide
  · rw [fB 122 (by decide) (by decide) (by decide), fB 123 (by decide) (by decide) (by decide)]
    unfold tx_TM
    exact ⟨if_pos rfl, by rw [if_neg (by decide), if_pos rfl]⟩
