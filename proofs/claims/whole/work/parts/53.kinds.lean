/-! kinds -/
theorem tw_fkw {I : tq_I} {c at_ q K k0 : Nat} {v : Int32} (hv : I 118 ((at_ + 2) + q) = v) : ∀ (n i : Nat), i + n < 1000 → i ≤ k0 → k0 ≤ i + n → (∀ k, i ≤ k → k < k0 → ¬ I 128 k = v) → (k0 = i + n ∨ I 128 k0 = v) → tq_wh (f_mfk1 I c at_ q K) n i (nI i) = nI k0
  | 0, i, _, h1, h2, _, _ => by rw [show k0 = i by omega]; rfl
  | n + 1, i, hb, h1, h2, h3, h4 => by
    by_cases e : k0 = i
    · have h5 : I 128 i = v := by
        rcases h4 with h4 | h4
        · omega
        · rw [← e]; exact h4
      rw [tq_wh_none (by unfold f_mfk1; rw [tq_N_nI (by omega), hv, if_pos h5]), e]
    · rw [tq_wh_some (b := nI (i + 1)) (by unfold f_mfk1; rw [tq_N_nI (by omega), hv, if_neg (h3 i (Nat.le_refl _) (by omega)), nI_add])]
      exact tw_fkw hv n (i + 1) (by omega) (by omega) (by omega) (fun k g1 g2 => h3 k (by omega) g2) (h4.imp (fun g => by omega) id)
/-- the kinds found so far -/
def tw_kd (a b : tq_I) (K : Nat) : Prop := tq_tl a ∧ K ≤ 384 ∧ a 107 3 = nI K ∧ b 117 18 = nI K ∧ ∀ k, k < K → b 128 k = nI (tw_rc (tq_N (a 108 k))) ∧ a 109 k = b 129 k
theorem tw_rcE {u v : Nat} (hu : u < 384) (hv : v < 384) : (nI (tw_rc u) = nI (tw_rc v)) ↔ u = v := by
  constructor
  · intro z
    exact tw_rc_inj hu hv (tr_inj (by have := (tw_crc u hu).2; omega) (by have := (tw_crc v hv).2; omega) z)
  · intro z; rw [z]
theorem tw_add1 {a b : tq_I} {K c' at_ cn i : Nat} {c : Int32} (k : tw_kd a b K) (hc : 0 ≤ c.toInt ∧ c.toInt ≤ 383) (hv : b 118 ((at_ + 2) + i) = nI (tw_rc (tq_N c))) : ∃ K', tw_kd (I_X9_add a c) (f_mfk2 c' at_ cn i b) K' := by
  have htl := tq_tl_add k.1 hc.1 hc.2
  obtain ⟨k1, k2, k3, k4, k5⟩ := k
  have hcl : tq_N c < 384 := by unfold tq_N; omega
  obtain ⟨t1, t2, t3, t4⟩ := k1
  have tl : tq_tl a := ⟨t1, t2, t3, t4⟩
  rw [k3, tq_N_nI (by omega)] at t3 t4
  have cd : ∀ z, z < K → tq_N (a 108 z) < 384 := fun z hz => by have := (t3 z hz).1; unfold tq_N; omega
  by_cases hm : a 110 (tq_N c) = -1
  · have hlt : K < 384 := by have := tq_tl_lt tl hcl hm; rw [k3, nI_toInt (by omega)] at this; omega
    have fk : tr_fk b c' at_ i = nI K := by
      unfold tr_fk
      rw [k4, tq_N_nI (by omega)]
      refine tw_fkw hv K 0 (by omega) (by omega) (by omega) (fun z _ hz e => ?_) (Or.inl (by omega))
      rw [(k5 z hz).1, tw_rcE (cd z hz) hcl] at e
      have := (t3 z hz).2
      rw [e, hm] at this
      have h2 := congrArg Int32.toInt this
      rw [nI_toInt (by omega)] at h2
      have h3 : (-1 : Int32).toInt = -1 := by decide
      omega
    refine ⟨K + 1, htl, by omega, ?_, ?_, fun z hz => ?_⟩
    · unfold I_X9_add
      rw [if_pos hm, tq_u_cell (by decide), tq_u_same, tq_u_cell (by decide), tq_u_cell (by decide), tq_u_cell (by decide), k3, nI_add]
    · unfold f_mfk2
      rw [fk, if_pos k4.symm, tq_u_cell (by decide), tq_u_same, tq_u_cell (by decide), tq_u_cell (by decide), k4, nI_add]
    · have a8 : I_X9_add a c 108 z = if z = K then c else a 108 z := by
        unfold I_X9_add
        rw [if_pos hm, k3, tq_N_nI (by omega), tq_u_cell (by decide), tq_u_cell (by decide), tq_u_cell (by decide)]
        by_cases e : z = K
        · rw [if_pos e, e, tq_u_same]
        · rw [if_neg e, tq_u_slot e, tq_u_cell (by decide)]
      have a9 : I_X9_add a c 109 z = if z = K then nI 0 + nI 1 else a 109 z := by
        unfold I_X9_add
        rw [if_pos hm, k3, tq_N_nI (by omega)]
        by_cases e : z = K
        · rw [if_pos e, e, tq_u_same, tq_u_cell (by decide), tq_u_same]
        · rw [if_neg e, tq_u_slot e, tq_u_cell (by decide), tq_u_slot e, tq_u_cell (by decide), tq_u_cell (by decide)]
      have b8 : f_mfk2 c' at_ cn i b 128 z = if z = K then nI (tw_rc (tq_N c)) else b 128 z := by
        unfold f_mfk2
        rw [fk, if_pos k4.symm, tq_N_nI (by omega), tq_u_cell (by decide), tq_u_cell (by decide), tq_u_cell (by decide), hv]
        by_cases e : z = K
        · rw [if_pos e, e, tq_u_same]
        · rw [if_neg e, tq_u_slot e]
      have b9 : f_mfk2 c' at_ cn i b 129 z = if z = K then nI 0 + nI 1 else b 129 z := by
        unfold f_mfk2
        rw [fk, if_pos k4.symm, tq_N_nI (by omega)]
        by_cases e : z = K
        · rw [if_pos e, e, tq_u_same, tq_u_cell (by decide), tq_u_same]
        · rw [if_neg e, tq_u_slot e, tq_u_cell (by decide), tq_u_slot e, tq_u_cell (by decide)]
      rw [a8, a9, b8, b9]
      by_cases e : z = K
      · rw [if_pos e, if_pos e, if_pos e, if_pos e]; exact ⟨rfl, rfl⟩
      · rw [if_neg e, if_neg e, if_neg e, if_neg e]; exact k5 z (by omega)
  · obtain ⟨k0, g1, g2, g3⟩ := (t4 _ hcl).resolve_left hm
    have fk : tr_fk b c' at_ i = nI k0 := by
      unfold tr_fk
      rw [k4, tq_N_nI (by omega)]
      refine tw_fkw hv K 0 (by omega) (by omega) (by omega) (fun z _ hz e => ?_) (Or.inr ?_)
      · rw [(k5 z (by omega)).1, tw_rcE (cd z (by omega)) hcl] at e
        have := (t3 z (by omega)).2
        rw [e, g2] at this
        have := tr_inj (by omega) (by omega) this
        omega
      · rw [(k5 k0 g1).1, g3]
    have hne : ¬ nI k0 = nI K := fun z => by have := tr_inj (by omega) (by omega) z; omega
    have eA : I_X9_add a c = tq_u a 109 k0 (a 109 k0 + nI 1) := by
      unfold I_X9_add
      rw [if_neg hm, g2, tq_N_nI (by omega)]
    have eB : f_mfk2 c' at_ cn i b = tq_u b 129 k0 (b 129 k0 + nI 1) := by
      unfold f_mfk2
      rw [fk, k4, if_neg hne, tq_N_nI (by omega)]
    refine ⟨K, htl, k2, ?_, ?_, fun z hz => ?_⟩
    · rw [eA, tq_u_cell (by decide)]; exact k3
    · rw [eB, tq_u_cell (by decide)]; exact k4
    · rw [eA, eB, tq_u_cell (by decide), tq_u_cell (by decide)]
      refine ⟨(k5 z hz).1, ?_⟩
      by_cases e : z = k0
      · rw [e, tq_u_same, tq_u_same, (k5 k0 g1).2]
      · rw [tq_u_slot e, tq_u_slot e]; exact (k5 z hz).2
theorem tw_mfk7 {c' at_ cn i : Nat} {b : tq_I} {j : Nat} (hj : j ≠ 18) : f_mfk2 c' at_ cn i b 117 j = b 117 j := by
  unfold f_mfk2
  split
  · rw [tq_u_cell (by decide), tq_u_slot hj, tq_u_cell (by decide), tq_u_cell (by decide)]
  · rw [tq_u_cell (by decide)]
section TWK
variable {A B A' B' : tq_I} {w h o c L : Nat}
theorem tw_take (k : tw_inv A B w h o c L) : (∃ K, tw_kd (I_X9_take A w h) (I_X12_findsKinds B) K) ∧ tw_inv (I_X9_take A w h) (I_X12_findsKinds B) w h o c L := by
  have hw := k.w1
  have key := tw_nest (F := fun y => f_tk1 w h y) (F2 := f_tk2 w h) (G := f_mfk3) (fun _ (a b : tq_I) => (∃ K, tw_kd a b K) ∧ (∀ cz, cz ≠ 107 → cz ≠ 108 → cz ≠ 109 → cz ≠ 110 → ∀ j, a cz j = A cz j) ∧ (∀ cz, cz ≠ 117 → cz ≠ 128 → cz ≠ 129 → ∀ j, b cz j = B cz j) ∧ ∀ j, j ≠ 18 → b 117 j = B 117 j) (W := 10) (H := 10) (w := w) (h := h) hw.2.1 hw.2.2.2 (fun y a => rfl) (fun x y a b hx hy hab => by
      obtain ⟨h1, h2, h3, h4⟩ := hab
      obtain ⟨v1, v2, v3, v4, v5⟩ := k.V (j := y * 10 + x) (by omega)
      unfold f_tk1 f_mfk3 I_X9_addCell
      rw [show 10 * ((y * 10 + x) / 10) + (y * 10 + x) % 10 = y * 10 + x by omega, h3 118 (by decide) (by decide) (by decide), ← v1, h2 13 (by decide) (by decide) (by decide) (by decide)]
      refine tw_it20 (fun i (a b : tq_I) => (∃ K, tw_kd a b K) ∧ (∀ cz, cz ≠ 107 → cz ≠ 108 → cz ≠ 109 → cz ≠ 110 → ∀ j, a cz j = A cz j) ∧ (∀ cz, cz ≠ 117 → cz ≠ 128 → cz ≠ 129 → ∀ j, b cz j = B cz j) ∧ ∀ j, j ≠ 18 → b 117 j = B 117 j) (tq_N (A 13 (y * 10 + x))) a b ⟨h1, h2, h3, h4⟩ (fun i a b hi hab => ?_)
      obtain ⟨⟨K, g1⟩, g2, g3, g4⟩ := hab
      obtain ⟨u1, u2⟩ := v5 i hi
      refine ⟨?_, fun cz z1 z2 z3 z4 j => by unfold f_ac1; rw [fr_X9_add _ _ ⟨z1, z2, z3, z4⟩]; exact g2 cz z1 z2 z3 z4 j, fun cz z1 z2 z3 j => (fr_mfk2 _ _ (tq_N (A 13 (y * 10 + x))) ⟨z1, z2, z3⟩ 1 i b j).trans (g3 cz z1 z2 z3 j), fun j hj => (tw_mfk7 hj).trans (g4 j hj)⟩
      unfold f_ac1
      rw [g2 14 (by decide) (by decide) (by decide) (by decide)]
      exact tw_add1 g1 u1 (by rw [g3 118 (by decide) (by decide) (by decide)]; exact u2)) (fun x y a b hx hy hn hab => by
      obtain ⟨h1, h2, h3, h4⟩ := hab
      obtain ⟨v1, v2, v3, v4, v5⟩ := k.V (j := y * 10 + x) (by omega)
      have e0 : tq_N (b 118 (343 + 10 * (10 * ((y * 10 + x) / 10) + (y * 10 + x) % 10))) = 0 := by
        rw [show 10 * ((y * 10 + x) / 10) + (y * 10 + x) % 10 = y * 10 + x by omega, h3 118 (by decide) (by decide) (by decide), ← v1, v4 (by unfold tw_in; omega)]
        decide
      unfold f_mfk3
      rw [e0]
      exact ⟨h1, h2, h3, h4⟩) (a := tq_it f_tk0 384 0 (tq_u A 107 3 (nI 0))) (b := tq_u B 117 18 (nI 0)) ⟨⟨0, tq_tl_0, by omega, by rw [fr_tk0 (by decide), tq_u_same], tq_u_same, fun z hz => absurd hz (Nat.not_lt_zero z)⟩, fun cz z1 z2 z3 z4 j => by rw [fr_tk0 z4, tq_u_cell z1], fun cz z1 z2 z3 j => tq_u_cell z1, fun j hj => tq_u_slot hj⟩
  obtain ⟨h1, h2, h3, h4⟩ := key
  refine ⟨h1, k.scr (fun cz hz j => h2 cz (by omega) (by omega) (by omega) (by omega) j) (fun cz hz j => h3 cz (by omega) (by omega) (by omega) j) ⟨h4 1 (by decide), h4 3 (by decide), h4 5 (by decide)⟩ (k.mi.cong (fun cz hz j => h2 cz (by omega) (by omega) (by omega) (by omega) j) ⟨h4 21 (by decide), h4 23 (by decide)⟩ (fun cz hz j => h3 cz (by omega) (by omega) (by omega) j))⟩
theorem tw_kinds (k : tw_inv A B w h o c L) : r_X11_kinds A w h o c L = r_X12_kinds B ∧ tw_inv (I_X11_kinds A w h o c L) (I_X12_kinds B) w h o c L := by
  obtain ⟨⟨K, h1⟩, h2⟩ := tw_take k
  exact ⟨by unfold r_X11_kinds r_X12_kinds; rw [h1.2.2.1, h1.2.2.2.1], h2⟩
theorem tw_kind (k : tw_inv A B w h o c L) (ly q : Int32) : r_X11_kind A ly q w h o c L = r_X12_kind B ly q ∧ tw_inv (I_X11_kind A ly q w h o c L) (I_X12_kind B ly q) w h o c L := by
  obtain ⟨⟨K, h0, h1, h2, h3, h4⟩, h5⟩ := tw_take k
  refine ⟨?_, by unfold I_X11_kind I_X12_kind; simp only [ite_self]; exact h5⟩
  unfold r_X11_kind r_X12_kind
  rw [h2, h3]
  simp (disch := omega) only [tw_range, tw_lt, tw_lt0]
  by_cases c1 : ly.toInt < 0
  · rw [if_pos c1, if_pos (by omega)]
  · rw [if_neg c1]
    by_cases c2 : ly.toInt < (K : Int)
    · rw [if_pos c2, if_neg (show ¬ ¬ (0 ≤ ly.toInt ∧ ly.toInt < (K : Int)) by omega)]
      have hl : tq_N ly < K := by unfold tq_N; omega
      obtain ⟨u1, u2⟩ := h4 (tq_N ly) hl
      have u3 := (h0.2.2.1 (tq_N ly) (by rw [h2, tq_N_nI (by omega)]; exact hl)).1
      have n4 : (nI 4).toInt = 4 := by decide
      have n3 : (nI 3).toInt = 3 := by decide
      have n0 : (nI 0).toInt = 0 := by decide
      by_cases c3 : q = nI 4
      · rw [if_pos c3, if_pos c3, if_neg, u2]
        rw [tq_b0, c3, n0, n4]; omega
      · rw [if_neg c3, if_neg c3, tw_propE u3.1 u3.2, u1]
        have c4 : q.toInt ≠ 4 := fun z => c3 (tq_eqI (j := 4) z (by decide))
        refine tw_if ?_
        rw [tq_b0, tq_b0, n0, n3, n4]
        omega
    · rw [if_neg c2, if_pos (by omega)]
end TWK
