/-! when the class's cells are sound; what the history's copies leave alone -/
theorem tq_cp_cell {I : tq_I} {a sp b dp n c j : Nat} (h : c ≠ b) : tq_cp I a sp b dp n c j = I c j := by simp [tq_cp, h]
theorem tq_cpSt_cell {I : tq_I} {a b c j : Nat} (h : c < a + 1 ∨ a + 15 < c) : tq_cpSt I a b c j = I c j := by
  simp (disch := omega) only [tq_cpSt, tq_cpCanvas, tq_cpRules, tq_cpRules5, tq_cpRules4, tq_cpRules3, tq_cpTiles, tq_cpLand, tq_cp_cell, tq_u_cell]
theorem fr_rec {I : tq_I} {o c cz : Nat} (h : cz < 17 ∨ 98 < cz) (jz : Nat) : tq_rec I o c cz jz = I cz jz := by
  have hm : (o + c) % 5 < 5 := Nat.mod_lt _ (by decide)
  unfold tq_rec
  split <;> rw [tq_u_cell (by omega), tq_cpSt_cell (by omega)]
/-- the class's cells are sound: a map of w by h, the ring at o with c states, a text of L -/
def tq_ok (I : tq_I) (w h o c L : Nat) : Prop :=
  (I 2 0 = nI w ∧ I 2 1 = nI h ∧ 1 ≤ w ∧ w ≤ 10 ∧ 1 ≤ h ∧ h ≤ 10) ∧ (∀ x y, x ≤ w → y ≤ h → 0 ≤ (I 3 (y * 11 + x)).toInt ∧ (I 3 (y * 11 + x)).toInt ≤ 5) ∧ (tq_le5 (I 6) ∧ tq_le5 (I 7) ∧ (I 5 5 = 0 ∨ I 5 5 = 1)) ∧ tq_cv I ∧
  (I 17 1 = nI o ∧ I 17 2 = nI c ∧ o < 5 ∧ c ≤ 5 ∧ ∀ k, k < 5 → I (23 + 16 * k) 5 = 0 ∨ I (23 + 16 * k) 5 = 1) ∧ ((∀ k, k < 121 → 0 ≤ (I 101 k).toInt ∧ (I 101 k).toInt ≤ 120) ∧ 0 ≤ (I 99 2).toInt ∧ (I 99 2).toInt ≤ 121) ∧ (I 111 1 = nI L ∧ L ≤ 150) ∧ 0 ≤ (I 113 1).toInt ∧ (I 113 1).toInt ≤ 150
section TQO
variable {I : tq_I} {w h o c L : Nat}
theorem tq_ok.hw (k : tq_ok I w h o c L) : I 2 0 = nI w := k.1.1
theorem tq_ok.hh (k : tq_ok I w h o c L) : I 2 1 = nI h := k.1.2.1
theorem tq_ok.w1 (k : tq_ok I w h o c L) : 1 ≤ w := k.1.2.2.1
theorem tq_ok.w10 (k : tq_ok I w h o c L) : w ≤ 10 := k.1.2.2.2.1
theorem tq_ok.h1 (k : tq_ok I w h o c L) : 1 ≤ h := k.1.2.2.2.2.1
theorem tq_ok.h10 (k : tq_ok I w h o c L) : h ≤ 10 := k.1.2.2.2.2.2
theorem tq_ok.ter (k : tq_ok I w h o c L) : ∀ x y, x ≤ w → y ≤ h → 0 ≤ (I 3 (y * 11 + x)).toInt ∧ (I 3 (y * 11 + x)).toInt ≤ 5 := k.2.1
theorem tq_ok.r6 (k : tq_ok I w h o c L) : tq_le5 (I 6) := k.2.2.1.1
theorem tq_ok.r7 (k : tq_ok I w h o c L) : tq_le5 (I 7) := k.2.2.1.2.1
theorem tq_ok.bd (k : tq_ok I w h o c L) : I 5 5 = 0 ∨ I 5 5 = 1 := k.2.2.1.2.2
theorem tq_ok.cv (k : tq_ok I w h o c L) : tq_cv I := k.2.2.2.1
theorem tq_ok.ho (k : tq_ok I w h o c L) : I 17 1 = nI o := k.2.2.2.2.1.1
theorem tq_ok.hc (k : tq_ok I w h o c L) : I 17 2 = nI c := k.2.2.2.2.1.2.1
theorem tq_ok.o5 (k : tq_ok I w h o c L) : o < 5 := k.2.2.2.2.1.2.2.1
theorem tq_ok.c5 (k : tq_ok I w h o c L) : c ≤ 5 := k.2.2.2.2.1.2.2.2.1
theorem tq_ok.hbd (k : tq_ok I w h o c L) : ∀ k, k < 5 → I (23 + 16 * k) 5 = 0 ∨ I (23 + 16 * k) 5 = 1 := k.2.2.2.2.1.2.2.2.2
theorem tq_ok.fnd (k : tq_ok I w h o c L) : ∀ k, k < 121 → 0 ≤ (I 101 k).toInt ∧ (I 101 k).toInt ≤ 120 := k.2.2.2.2.2.1.1
theorem tq_ok.rct (k : tq_ok I w h o c L) : 0 ≤ (I 99 2).toInt ∧ (I 99 2).toInt ≤ 121 := k.2.2.2.2.2.1.2
theorem tq_ok.hL (k : tq_ok I w h o c L) : I 111 1 = nI L := k.2.2.2.2.2.2.1.1
theorem tq_ok.L150 (k : tq_ok I w h o c L) : L ≤ 150 := k.2.2.2.2.2.2.1.2
theorem tq_ok.out (k : tq_ok I w h o c L) : 0 ≤ (I 113 1).toInt ∧ (I 113 1).toInt ≤ 150 := k.2.2.2.2.2.2.2
theorem tq_ok.wi (k : tq_ok I w h o c L) : (I 2 0).toInt ≤ 10 := by rw [k.hw, nI_toInt (by have := k.w10; omega)]; have := k.w10; omega
theorem tq_ok.hi (k : tq_ok I w h o c L) : (I 2 1).toInt ≤ 10 := by rw [k.hh, nI_toInt (by have := k.h10; omega)]; have := k.h10; omega
theorem tq_ok.wh (k : tq_ok I w h o c L) : (I 2 0).toInt ≤ 10 ∧ (I 2 1).toInt ≤ 10 := ⟨k.wi, k.hi⟩
theorem tq_ok.rg (k : tq_ok I w h o c L) : tq_rg I := ⟨k.fnd, k.rct.1, k.rct.2, k.wi, k.hi⟩
theorem tq_ok.cell (k : tq_ok I w h o c L) {x y : Int32} (q : tq_cell I x y) : tq_N x < w ∧ tq_N y < h ∧ tq_N x ≤ 9 ∧ tq_N y ≤ 9 := by
  obtain ⟨q1, q2, q3, q4⟩ := q
  have h1 := k.w10
  have h2 := k.h10
  rw [k.hw, nI_toInt (by omega)] at q2
  rw [k.hh, nI_toInt (by omega)] at q4
  unfold tq_N
  omega
theorem tq_ok.corner (k : tq_ok I w h o c L) {x y : Int32} (q : tq_corner I x y) : tq_N x ≤ w ∧ tq_N y ≤ h ∧ tq_N x ≤ 10 ∧ tq_N y ≤ 10 := by
  obtain ⟨q1, q2, q3, q4⟩ := q
  have h1 := k.w10
  have h2 := k.h10
  rw [k.hw, nI_toInt (by omega)] at q2
  rw [k.hh, nI_toInt (by omega)] at q4
  unfold tq_N
  omega
/-- the four corners of a cell -/
theorem tq_ok.hT (k : tq_ok I w h o c L) {x y : Nat} (hx : x < w) (hy : y < h) : ∀ i, i < 4 → 0 ≤ (I 3 ((y + i / 2) * 11 + (x + i % 2))).toInt ∧ (I 3 ((y + i / 2) * 11 + (x + i % 2))).toInt ≤ 5 := fun i hi => k.ter (x + i % 2) (y + i / 2) (by omega) (by omega)
end TQO
/-- the cells that soundness speaks of, beside the history, are as they were -/
theorem tq_ok.same {I K : tq_I} {w h o c o' c' L : Nat} (k : tq_ok I w h o c L) (hn : ∀ cz jz, (cz < 17 ∨ 98 < cz) → K cz jz = I cz jz) (h1 : K 17 1 = nI o') (h2 : K 17 2 = nI c') (h3 : o' < 5) (h4 : c' ≤ 5) (h5 : ∀ k, k < 5 → K (23 + 16 * k) 5 = 0 ∨ K (23 + 16 * k) 5 = 1) : tq_ok K w h o' c' L := by
  have e : ∀ cz, (cz < 17 ∨ 98 < cz) → K cz = I cz := fun cz hz => funext fun jz => hn cz jz hz
  refine ⟨?_, ?_, ?_, ?_, ⟨h1, h2, h3, h4, h5⟩, ?_, ?_, ?_⟩
  · rw [e 2 (by omega)]; exact k.1
  · rw [e 3 (by omega)]; exact k.2.1
  · rw [e 6 (by omega), e 7 (by omega), e 5 (by omega)]; exact k.2.2.1
  · unfold tq_cv
    rw [e 13 (by omega), e 14 (by omega)]; exact k.cv
  · rw [e 101 (by omega), e 99 (by omega)]; exact k.2.2.2.2.2.1
  · rw [e 111 (by omega)]; exact k.2.2.2.2.2.2.1
  · rw [e 113 (by omega)]; exact k.2.2.2.2.2.2.2
def tq_o1 (o c : Nat) : Nat := if c < 5 then o else (o + 1) % 5
def tq_c1n (c : Nat) : Nat := if c < 5 then c + 1 else c
theorem tq_cpSt_bd {I : tq_I} {m k : Nat} (hk : k < 5) (h1 : I 5 5 = 0 ∨ I 5 5 = 1) (h2 : ∀ k, k < 5 → I (23 + 16 * k) 5 = 0 ∨ I (23 + 16 * k) 5 = 1) : tq_cpSt I (19 + 16 * m) 1 (23 + 16 * k) 5 = 0 ∨ tq_cpSt I (19 + 16 * m) 1 (23 + 16 * k) 5 = 1 := by
  by_cases hm : k = m
  · subst hm
    have e : tq_cpSt I (19 + 16 * k) 1 (23 + 16 * k) 5 = I 5 5 := by
      have e1 : 23 + 16 * k = 19 + 16 * k + 4 := by omega
      rw [e1]
      simp (disch := omega) only [tq_cpSt, tq_cpCanvas, tq_cpRules, tq_cp_cell, tq_u_same]
      simp (disch := omega) only [tq_cpRules5, tq_cpRules4, tq_cpRules3, tq_cpTiles, tq_cpLand, tq_cp_cell, tq_u_cell]
    rw [e]; exact h1
  · rw [tq_cpSt_cell (by omega)]
    exact h2 k hk
theorem tq_ok.rec {I : tq_I} {w h o c L : Nat} (k : tq_ok I w h o c L) : tq_ok (tq_rec I o c) w h (tq_o1 o c) (tq_c1n c) L := by
  have h5 := k.c5
  have h6 := k.o5
  have hm : (o + c) % 5 < 5 := Nat.mod_lt _ (by decide)
  refine k.same (fun cz jz hz => fr_rec hz jz) ?_ ?_ ?_ ?_ (fun m hm => ?_)
  · unfold tq_rec tq_o1
    split
    · rw [tq_u_slot (by decide), tq_cpSt_cell (by omega)]; exact k.ho
    · rw [tq_u_same]
  · unfold tq_rec tq_c1n
    split
    · rw [tq_u_same]
    · rw [tq_u_slot (by decide), tq_cpSt_cell (by omega)]; exact k.hc
  · unfold tq_o1; split <;> omega
  · unfold tq_c1n; split <;> omega
  · unfold tq_rec
    split <;> rw [tq_u_cell (by omega)] <;> exact tq_cpSt_bd hm k.bd k.hbd
