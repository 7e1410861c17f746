/-! the reference's closed sets -/
theorem tw_if7 {α : Type} {p1 p2 p3 p4 c z e : Prop} [Decidable p1] [Decidable p2] [Decidable p3] [Decidable p4] [Decidable c] [Decidable z] [Decidable e] (X Y : α) : (if p1 then (if p2 then (if p3 then (if p4 then Y else (if c then Y else (if z then (if e then X else Y) else Y))) else (if c then Y else (if z then (if e then X else Y) else Y))) else (if c then Y else (if z then (if e then X else Y) else Y))) else (if c then Y else (if z then (if e then X else Y) else Y))) = if (¬ p1 ∨ ¬ p2 ∨ ¬ p3 ∨ ¬ p4) ∧ ¬ c ∧ z ∧ e then X else Y := by
  by_cases h1 : p1 <;> by_cases h2 : p2 <;> by_cases h3 : p3 <;> by_cases h4 : p4 <;> by_cases h5 : c <;> by_cases h6 : z <;> by_cases h7 : e <;> simp [h1, h2, h3, h4, h5, h6, h7]
theorem tw_met {b : tq_I} {w h : Nat} (kw : tr_wh b w h) {x y : Int32} : (¬ r_X12_isMet b x y w h = 0) ↔ ((0 ≤ x.toInt ∧ x.toInt ≤ (w : Int) ∧ 0 ≤ y.toInt ∧ y.toInt ≤ (h : Int)) ∧ ¬ b 121 (11 * tq_N y + tq_N x) = 0) := by
  unfold r_X12_isMet
  by_cases hc : tr_corner b x y
  · rw [if_neg (fun q => tq_b0.mp q hc)]
    have hc' := kw.corner.mp hc
    by_cases h0 : b 121 (11 * tq_N y + tq_N x) = 0
    · rw [if_pos h0]
      exact ⟨fun z => absurd (by decide) z, fun z => absurd h0 z.2⟩
    · rw [if_neg h0]
      exact ⟨fun _ => ⟨hc', h0⟩, fun _ => by decide⟩
  · rw [if_pos (tq_b0.mpr hc)]
    exact ⟨fun z => absurd (by decide) z, fun z => absurd (kw.corner.mpr z.1) hc⟩
abbrev tw_M (b : tq_I) (k : Nat) : Prop := k < 121 ∧ ¬ b 121 k = 0
theorem tw_nbE {b : tq_I} {w h i : Nat} (kw : tr_wh b w h) (hM : ∀ k, tw_M b k → k % 11 ≤ w ∧ k / 11 ≤ h) (hi : i < 121) : (¬ r_X12_isMet b ((nI (i % 11)) - (nI 1)) (nI (i / 11)) w h = 0 ∨ ¬ r_X12_isMet b (nI ((i % 11) + 1)) (nI (i / 11)) w h = 0 ∨ ¬ r_X12_isMet b (nI (i % 11)) ((nI (i / 11)) - (nI 1)) w h = 0 ∨ ¬ r_X12_isMet b (nI (i % 11)) (nI ((i / 11) + 1)) w h = 0) ↔ ∃ k, tw_M b k ∧ tw_adj k i := by
  have hw := kw.2.2
  rw [tw_met kw, tw_met kw, tw_met kw, tw_met kw, tw_N1 (by omega), tw_N1 (by omega), tq_N_nI (by omega), tq_N_nI (by omega), tq_N_nI (by omega), tq_N_nI (by omega), tq_m1 (by omega), tq_m1 (by omega), nI_toInt (by omega), nI_toInt (by omega), nI_toInt (by omega), nI_toInt (by omega)]
  constructor
  · rintro (⟨h1, h2⟩ | ⟨h1, h2⟩ | ⟨h1, h2⟩ | ⟨h1, h2⟩)
    · exact ⟨_, ⟨by omega, h2⟩, by unfold tw_adj; omega⟩
    · exact ⟨_, ⟨by omega, h2⟩, by unfold tw_adj; omega⟩
    · exact ⟨_, ⟨by omega, h2⟩, by unfold tw_adj; omega⟩
    · exact ⟨_, ⟨by omega, h2⟩, by unfold tw_adj; omega⟩
  · rintro ⟨k, k1, k2⟩
    have k3 := hM k k1
    have k4 := k1.1
    unfold tw_adj at k2
    rcases (show (k % 11 + 1 = i % 11 ∧ k / 11 = i / 11) ∨ (i % 11 + 1 = k % 11 ∧ k / 11 = i / 11) ∨ (k % 11 = i % 11 ∧ k / 11 + 1 = i / 11) ∨ (k % 11 = i % 11 ∧ i / 11 + 1 = k / 11) by omega) with c | c | c | c
    · exact Or.inl ⟨by omega, by rw [show 11 * (i / 11) + (i % 11 - 1) = k by omega]; exact k1.2⟩
    · exact Or.inr (Or.inl ⟨by omega, by rw [show 11 * (i / 11) + (i % 11 + 1) = k by omega]; exact k1.2⟩)
    · exact Or.inr (Or.inr (Or.inl ⟨by omega, by rw [show 11 * (i / 11 - 1) + i % 11 = k by omega]; exact k1.2⟩))
    · exact Or.inr (Or.inr (Or.inr ⟨by omega, by rw [show 11 * (i / 11 + 1) + i % 11 = k by omega]; exact k1.2⟩))
def tw_H (T S : Nat → Prop) (k0 : Nat) (B b : tq_I) : Prop := (∀ cz, cz ≠ 121 → ∀ j, b cz j = B cz j) ∧ (∀ k, S k → tw_M b k) ∧ tw_M b k0 ∧ (∀ k, tw_M b k → T k) ∧ ∀ C : Nat → Prop, tw_cs T S k0 C → ∀ k, tw_M b k → C k
def tw_clo (T : Nat → Prop) (b : tq_I) : Prop := ∀ k l, tw_M b k → tw_adj k l → T l → tw_M b l
theorem tw_rc1E {b : Int32 × tq_I} {x y w h i : Nat} {t : Int32} (kw : tr_wh b.2 w h) (hM : ∀ k, tw_M b.2 k → k % 11 ≤ w ∧ k / 11 ≤ h) (hi : i < 121) : ((∃ k, tw_M b.2 k ∧ tw_adj k i) ∧ (i % 11 ≤ w ∧ i / 11 ≤ h) ∧ b.2 121 i = 0 ∧ b.2 118 (22 + i) = t ∧ f_rc1 x y t w h i b = (nI 1, tq_u b.2 121 i (nI 1))) ∨ (¬ ((∃ k, tw_M b.2 k ∧ tw_adj k i) ∧ (i % 11 ≤ w ∧ i / 11 ≤ h) ∧ b.2 121 i = 0 ∧ b.2 118 (22 + i) = t) ∧ f_rc1 x y t w h i b = b) := by
  have hw := kw.2.2
  have ec : (¬ tq_b (tr_corner b.2 (nI (i % 11)) (nI (i / 11))) = 0) ↔ (i % 11 ≤ w ∧ i / 11 ≤ h) := by
    rw [tq_b0, Classical.not_not, kw.corner, nI_toInt (by omega), nI_toInt (by omega)]
    omega
  have e18 : 22 + 11 * (i / 11) + i % 11 = 22 + i := by omega
  have hn := tw_nbE kw hM hi
  unfold f_rc1
  rw [tw_if7, e18]
  by_cases hc : (∃ k, tw_M b.2 k ∧ tw_adj k i) ∧ (i % 11 ≤ w ∧ i / 11 ≤ h) ∧ b.2 121 i = 0 ∧ b.2 118 (22 + i) = t
  · left
    exact ⟨hc.1, hc.2.1, hc.2.2.1, hc.2.2.2, if_pos ⟨hn.mpr hc.1, ec.mpr hc.2.1, hc.2.2.1, hc.2.2.2⟩⟩
  · right
    exact ⟨hc, if_neg (fun z => hc ⟨hn.mp z.1, ec.mp z.2.1, z.2.2.1, z.2.2.2⟩)⟩
theorem tw_pass {T S : Nat → Prop} {k0 w h x y : Nat} {t : Int32} {B a : tq_I} (kw : tr_wh B w h) (hT : ∀ k, T k ↔ k < 121 ∧ k % 11 ≤ w ∧ k / 11 ≤ h ∧ B 118 (22 + k) = t) (H : tw_H T S k0 B a) : tw_H T S k0 B (tq_it (f_rc1 x y t w h) 121 0 (nI 0, a)).2 ∧ ((tq_it (f_rc1 x y t w h) 121 0 (nI 0, a)).1 = 0 → tw_clo T (tq_it (f_rc1 x y t w h) 121 0 (nI 0, a)).2) := by
  have key := tw_it0 (f := f_rc1 x y t w h) (fun n (b : Int32 × tq_I) => tw_H T S k0 B b.2 ∧ ((b.2 = a ∧ ∀ i, i < n → ∀ k, tw_M a k → tw_adj k i → T i → tw_M a i) ∨ b.1 = nI 1)) 121 (nI 0, a) ⟨H, Or.inl ⟨rfl, fun i hi => absurd hi (Nat.not_lt_zero i)⟩⟩ (fun n b hn hb => by
    obtain ⟨⟨h1, h2, h3, h4, h5⟩, hb2⟩ := hb
    have kb : tr_wh b.2 w h := kw.fr (fun j => h1 118 (by decide) j)
    have hM : ∀ k, tw_M b.2 k → k % 11 ≤ w ∧ k / 11 ≤ h := fun k hk => by have := (hT k).mp (h4 k hk); exact ⟨this.2.1, this.2.2.1⟩
    rcases tw_rc1E (x := x) (y := y) (t := t) kb hM hn with ⟨⟨k, k1, k2⟩, c2, c3, c4, c5⟩ | ⟨hc, c5⟩
    · have hTn : T n := (hT n).mpr ⟨hn, c2.1, c2.2, by rw [← h1 118 (by decide)]; exact c4⟩
      rw [c5]
      have mm : ∀ k, tw_M (tq_u b.2 121 n (nI 1)) k ↔ (k = n ∨ tw_M b.2 k) := fun k => by
        by_cases e : k = n
        · rw [e]
          exact ⟨fun _ => Or.inl rfl, fun _ => ⟨hn, by rw [tq_u_same]; decide⟩⟩
        · unfold tw_M
          rw [tq_u_slot e]
          exact ⟨fun z => Or.inr z, fun z => z.resolve_left e⟩
      refine ⟨⟨fun cz hz j => by rw [← h1 cz hz j]; exact tq_u_cell hz, fun k hk => (mm k).mpr (Or.inr (h2 k hk)), (mm k0).mpr (Or.inr h3), fun k hk => ?_, fun C hC k hk => ?_⟩, Or.inr rfl⟩
      · rcases (mm k).mp hk with e | e
        · rw [e]; exact hTn
        · exact h4 k e
      · rcases (mm k).mp hk with e | e
        · rw [e]; exact hC.2.2 _ n (h5 C hC _ k1) k2 hTn
        · exact h5 C hC k e
    · rw [c5]
      refine ⟨⟨h1, h2, h3, h4, h5⟩, hb2.imp (fun z => ⟨z.1, fun i hi k hk hki hTi => ?_⟩) id⟩
      by_cases e : i = n
      · subst e
        by_cases h0 : a 121 i = 0
        · have hTi' := (hT i).mp hTi
          refine absurd ⟨⟨k, by rw [z.1]; exact hk, hki⟩, ⟨hTi'.2.1, hTi'.2.2.1⟩, by rw [z.1]; exact h0, by rw [h1 118 (by decide)]; exact hTi'.2.2.2⟩ hc
        · exact ⟨hn, h0⟩
      · exact z.2 i (by omega) k hk hki hTi)
  generalize tq_it (f_rc1 x y t w h) 121 0 (nI 0, a) = r at *
  refine ⟨key.1, fun h0 => ?_⟩
  rcases key.2 with ⟨e, hc⟩ | e
  · intro k l hk hkl hl
    rw [e] at hk ⊢
    exact hc l ((hT l).mp hl).1 k hk hkl hl
  · rw [e] at h0
    exact absurd h0 (by decide)
theorem tw_rc2 {T S : Nat → Prop} {k0 w h x y : Nat} {t : Int32} {B : tq_I} (kw : tr_wh B w h) (hT : ∀ k, T k ↔ k < 121 ∧ k % 11 ≤ w ∧ k / 11 ≤ h ∧ B 118 (22 + k) = t) : ∀ (m i : Nat) (a : Int32 × tq_I), (a.1 = 0 ∨ 122 ≤ m + tr_cnt (a.2 121) 121) → tw_H T S k0 B a.2 → (a.1 = 0 → tw_clo T a.2) → tw_H T S k0 B (tq_wh (f_rc2 x y t w h) m i a).2 ∧ tw_clo T (tq_wh (f_rc2 x y t w h) m i a).2
  | 0, i, a, hf, H, hc => ⟨H, hc (hf.resolve_right (fun z => by have := tr_cnt_le (a.2 121) 121; omega))⟩
  | m + 1, i, a, hf, H, hc => by
    by_cases h0 : a.1 = 0
    · rw [tq_wh_none (by unfold f_rc2; rw [if_pos h0])]
      exact ⟨H, hc h0⟩
    · have hf2 := hf.resolve_left h0
      have hp := tw_pass (x := x) (y := y) kw hT H
      have hr := tr_rcm (x := x) (y := y) (w := w) (h := h) (t := t) (n := m) (a := a.2) (by omega)
      have ef : f_rc2 x y t w h i a = some ((tq_it (f_rc1 x y t w h) 121 0 ((nI 0), a.2)).1, (tq_it (f_rc1 x y t w h) 121 0 ((nI 0), a.2)).2) := by
        unfold f_rc2
        rw [if_neg h0]
      rw [tq_wh_some ef]
      generalize tq_it (f_rc1 x y t w h) 121 0 (nI 0, a.2) = r at *
      exact tw_rc2 kw hT m (i + 1) (r.1, r.2) hr hp.1 hp.2
theorem tw_reaches {T : Nat → Prop} {b : tq_I} {w h x y : Nat} (kw : tr_wh b w h) (hx : x ≤ w) (hy : y ≤ h) (hT : ∀ k, T k ↔ k < 121 ∧ k % 11 ≤ w ∧ k / 11 ≤ h ∧ b 118 (22 + k) = b 118 (22 + 11 * y + x)) (hS1 : ∀ k, tw_M b k → T k) : tw_cl T (tw_M b) (y * 11 + x) (tw_M (I_X12_reaches b x y w h)) := by
  have hw := kw.2.2
  have Tk0 : T (y * 11 + x) := (hT _).mpr ⟨by omega, by omega, by omega, tw_ix (f := b 118) (by omega)⟩
  have mm : ∀ k, tw_M (tq_u b 121 (11 * y + x) (nI 1)) k ↔ (k = y * 11 + x ∨ tw_M b k) := fun k => by
    by_cases e : k = y * 11 + x
    · rw [e, show 11 * y + x = y * 11 + x by omega]
      exact ⟨fun _ => Or.inl rfl, fun _ => ⟨by omega, by rw [tq_u_same]; decide⟩⟩
    · unfold tw_M
      rw [tq_u_slot (show k ≠ 11 * y + x by omega)]
      exact ⟨fun z => Or.inr z, fun z => z.resolve_left e⟩
  obtain ⟨⟨h1, h2, h3, h4, h5⟩, h6⟩ := tw_rc2 (T := T) (S := tw_M b) (k0 := y * 11 + x) (x := x) (y := y) kw hT 122 0 (nI 1, tq_u b 121 (11 * y + x) (nI 1)) (Or.inr (by omega)) ⟨fun cz hz j => tq_u_cell hz, fun k hk => (mm k).mpr (Or.inr hk), (mm _).mpr (Or.inl rfl), fun k hk => by
    rcases (mm k).mp hk with e | e
    · rw [e]; exact Tk0
    · exact hS1 k e, fun C hC k hk => by
    rcases (mm k).mp hk with e | e
    · rw [e]; exact hC.2.1
    · exact hC.1 k e⟩ (fun z => absurd z (show ¬ nI 1 = 0 by decide))
  exact ⟨⟨h2, h3, h6⟩, h4, h5⟩
