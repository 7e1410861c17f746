/-! two readers of one text: blanks and numbers -/
def tw_rn (L p : Nat) (a : tq_I) (r : Int32 × tq_I) : Prop := ∀ n, L ≤ p + n → tq_wr (f_fo1 L) (d_fo1 L) n (nI p, a) = r
section TWR
variable {L p q : Nat} {a a' b : tq_I} {r : Int32 × tq_I}
theorem tw_rn.go (h : f_fo1 L (nI p, a) = .inl (nI q, a')) (hp : p < L) (hq : p < q) (k : tw_rn L q a' r) : tw_rn L p a r := fun n hn => by
  obtain ⟨m, rfl⟩ : ∃ m, n = m + 1 := ⟨n - 1, by omega⟩
  rw [tq_wr_c h]
  exact k m (by omega)
theorem tw_rn.no (h : f_fo1 L (nI p, a) = .inr (.inl r)) (hp : p < L) : tw_rn L p a r := fun n hn => by
  obtain ⟨m, rfl⟩ : ∃ m, n = m + 1 := ⟨n - 1, by omega⟩
  rw [tq_wr_r h]
theorem tw_rn.en (hL : a 111 1 = nI L) (hL5 : L ≤ 150) : tw_rn L L a (d_fo1 L (nI L, a)) := fun n hn => by
  cases n with
  | zero => rfl
  | succ m =>
    have c : a 111 1 ≤ nI L := by rw [hL, nI_leI (by omega) (by omega)]; omega
    rw [tq_wr_x (by simp only [f_fo1, if_pos c])]
theorem tw_fog {k : Nat} (hp : p < L) (hL : a 111 1 = nI L) (hL5 : L ≤ 150) (hr : r_X4_accept a p L = nI (k + 1)) (hk : k < 10) (ha : I_X4_accept a p L = a') : f_fo1 L (nI p, a) = .inl (nI (p + (k + 1)), a') := by
  have c : ¬ a 111 1 ≤ nI p := fun z => by rw [hL, nI_leI (by omega) (by omega)] at z; omega
  have e : tq_N (nI p) = p := tq_N_nI (by omega)
  have c2 : (0 : Int32) < nI (k + 1) := by rw [Int32.lt_iff_toInt_lt, nI_toInt (by omega), Int32.toInt_zero]; omega
  simp only [f_fo1, if_neg c, e, hr, if_pos c2, nI_add, ha]
theorem tw_fon (hp : p < L) (hL : a 111 1 = nI L) (hL5 : L ≤ 150) (hr : r_X4_accept a p L = nI 0) : f_fo1 L (nI p, a) = .inr (.inl (nI p, I_X4_accept a p L)) := by
  have c : ¬ a 111 1 ≤ nI p := fun z => by rw [hL, nI_leI (by omega) (by omega)] at z; omega
  have e : tq_N (nI p) = p := tq_N_nI (by omega)
  have c2 : ¬ (0 : Int32) < nI 0 := by decide
  simp only [f_fo1, if_neg c, e, hr, if_neg c2]
theorem tw_blanks (hL : a 111 1 = nI L) (hL5 : L ≤ 150) : ∀ (d p : Nat), p + d ≤ L → (∀ j, p ≤ j → j < p + d → a 112 j = nI 32) → ∀ r, tw_rn L (p + d) a r → tw_rn L p a r
  | 0, p, _, _, r, k => k
  | d + 1, p, hp, hb, r, k => by
    have h32 := hb p (Nat.le_refl _) (by omega)
    refine tw_rn.go (q := p + 1) (a' := a) (tw_fog (k := 0) (by omega) hL hL5 (by unfold r_X4_accept; rw [if_pos h32]) (by omega) (by unfold I_X4_accept; rw [if_pos h32])) (by omega) (by omega) ?_
    exact tw_blanks hL hL5 d (p + 1) (by omega) (fun j h1 h2 => hb j (by omega) (by omega)) r (by rw [show p + 1 + d = p + (d + 1) by omega]; exact k)
theorem tw_skp (T : Nat → Int32) : ∀ (n p : Nat), (∀ j, p ≤ j → j < tr_sk T n p → T j = nI 32) ∧ (tr_sk T n p < p + n → ¬ T (tr_sk T n p) = nI 32)
  | 0, p => ⟨fun j h1 h2 => by unfold tr_sk at h2; omega, fun h => by unfold tr_sk at h; omega⟩
  | n + 1, p => by
    unfold tr_sk
    by_cases h : T p = nI 32
    · rw [if_pos h]
      obtain ⟨h1, h2⟩ := tw_skp T n (p + 1)
      refine ⟨fun j a1 a2 => ?_, fun a1 => h2 (by omega)⟩
      by_cases e : j = p
      · rw [e]; exact h
      · exact h1 j (by omega) a2
    · rw [if_neg h]
      exact ⟨fun j a1 a2 => by omega, fun _ => h⟩
/-- blanks, on both sides -/
theorem tw_here (hL : a 111 1 = nI L) (hL5 : L ≤ 150) (hpL : p ≤ L) (h3 : b 117 3 = nI L) (hp : b 117 19 = nI p) (hT : ∀ j, j < L → b 119 j = a 112 j) : ∃ s, tr_skI b L = s ∧ p ≤ s ∧ s ≤ L ∧ (∀ r, tw_rn L s a r → tw_rn L p a r) ∧ (s < L → ¬ a 112 s = nI 32) ∧ r_X12_here b L = if L ≤ s then -1 else a 112 s := by
  have ht : tr_tx b L := ⟨h3, hL5, by rw [hp, nI_toInt (by omega)]; omega, by rw [hp, nI_toInt (by omega)]; omega⟩
  have e : tr_skI b L = tr_sk (b 119) (L - p) p := by unfold tr_skI; rw [hp, tq_N_nI (by omega)]
  obtain ⟨h1, h2⟩ := tw_skp (b 119) (L - p) p
  have h4 := tr_sk_le (b 119) (L - p) p
  rw [← e] at h1 h2 h4
  refine ⟨tr_skI b L, rfl, h4.1, by omega, fun r k => ?_, fun hs => by rw [← hT _ hs]; exact h2 (by omega), ?_⟩
  · refine tw_blanks hL hL5 (tr_skI b L - p) p (by omega) (fun j a1 a2 => by rw [← hT j (by omega)]; exact h1 j a1 (by omega)) r (by rw [show p + (tr_skI b L - p) = tr_skI b L by omega]; exact k)
  · rw [tr_hereV ht]
    by_cases hs : L ≤ tr_skI b L
    · rw [if_pos hs, if_pos hs]
    · rw [if_neg hs, if_neg hs, hT _ (by omega)]
end TWR
abbrev tw_dg (v : Int32) : Prop := (nI 48).toInt ≤ v.toInt ∧ v.toInt ≤ (nI 57).toInt
abbrev tw_ok (v : Int32) : Prop := (nI 1).toInt ≤ v.toInt ∧ v.toInt ≤ (nI 11).toInt
theorem tw_10z (x : Int32) : nI 10 * nI 0 + x = x := by
  rw [show nI 10 * nI 0 = 0 by decide]; exact Int32.zero_add x
theorem tw_ss (q k : Nat) : nI (q + k) - nI q = nI k := by
  rw [tq_sub_nI (by omega), show q + k - q = k by omega]
/-- the reference's digits -/
theorem tw_num {I : tq_I} {L q : Nat} (k : tr_tx I L) (hq : I 117 19 = nI q) (hqL : q < L) (hd : tw_dg (I 119 q)) : ((q + 1 < L ∧ tw_dg (I 119 (q + 1))) → (q + 2 < L ∧ tw_dg (I 119 (q + 2))) → nI 2 < (tq_wh (f_mnm1 I L) (L - q) 0 (nI q, nI 0)).1 - nI q) ∧ ((q + 1 < L ∧ tw_dg (I 119 (q + 1))) → ¬ (q + 2 < L ∧ tw_dg (I 119 (q + 2))) → tq_wh (f_mnm1 I L) (L - q) 0 (nI q, nI 0) = (nI (q + 2), nI 10 * (I 119 q - nI 48) + I 119 (q + 1) - nI 48)) ∧ (¬ (q + 1 < L ∧ tw_dg (I 119 (q + 1))) → tq_wh (f_mnm1 I L) (L - q) 0 (nI q, nI 0) = (nI (q + 1), I 119 q - nI 48)) := by
  have hL5 := k.2.1
  have st : ∀ (i : Nat) (z : Nat) (v : Int32), z ≤ 150 → ¬ tw_dg (I 119 z) → f_mnm1 I L i (nI z, v) = none := fun i z v hz hn => by
    have e : tq_N (nI z) = z := tq_N_nI (by omega)
    simp only [f_mnm1, e, if_pos (tq_b0.mpr hn)]
  have go : ∀ (i : Nat) (d : Nat) (v : Int32), q + d ≤ 150 → d < 3 → tw_dg (I 119 (q + d)) → f_mnm1 I L i (nI (q + d), v) = some (nI (q + d + 1), nI 10 * v + I 119 (q + d) - nI 48) := fun i d v hz hd3 hn => by
    have e : tq_N (nI (q + d)) = q + d := tq_N_nI (by omega)
    have c : ¬ nI 3 ≤ nI d := fun z => by rw [nI_leI (by omega) (by omega)] at z; omega
    simp only [f_mnm1, e, if_neg (fun z => tq_b0.mp z hn), hq, tw_ss, if_neg c, nI_add]
  have go3 : ∀ (i : Nat) (v : Int32), q + 2 ≤ 150 → tw_dg (I 119 (q + 2)) → f_mnm1 I L i (nI (q + 2), v) = some (nI (q + 3), nI 10 * v + I 119 (q + 2) - nI 48) := fun i v h1 h2 => go i 2 v h1 (by decide) h2
  obtain ⟨m, hm⟩ : ∃ m, L - q = m + 1 := ⟨L - q - 1, by omega⟩
  have g0 : f_mnm1 I L 0 (nI q, nI 0) = some (nI (q + 1), I 119 q - nI 48) := by
    have := go 0 0 (nI 0) (by omega) (by decide) hd
    rw [Nat.add_zero, tw_10z] at this
    exact this
  rw [hm, tq_wh_some g0]
  refine ⟨fun h1 h2 => ?_, fun h1 h2 => ?_, fun h1 => ?_⟩
  · obtain ⟨m2, hm2⟩ : ∃ m2, m = m2 + 1 := ⟨m - 1, by omega⟩
    obtain ⟨m3, hm3⟩ : ∃ m3, m2 = m3 + 1 := ⟨m2 - 1, by omega⟩
    rw [hm2, tq_wh_some (go _ 1 _ (by omega) (by decide) h1.2), hm3, tq_wh_some (go3 _ _ (by omega) h2.2)]
    have := tr_nm1b k m3 (0 + 1 + 1 + 1) (nI (q + 3), nI 10 * (nI 10 * (I 119 q - nI 48) + I 119 (q + 1) - nI 48) + I 119 (q + 2) - nI 48) (by rw [nI_toInt (by omega)]; omega) (by rw [nI_toInt (by omega)]; omega)
    generalize tq_wh (f_mnm1 I L) m3 (0 + 1 + 1 + 1) (nI (q + 3), nI 10 * (nI 10 * (I 119 q - nI 48) + I 119 (q + 1) - nI 48) + I 119 (q + 2) - nI 48) = E at *
    rw [nI_toInt (by omega)] at this
    have e1 := tq_nIN (x := E.1) (by omega)
    have e2 := tq_NI (v := E.1) (by omega)
    rw [e1, show tq_N E.1 = q + (tq_N E.1 - q) by omega, tw_ss, Int32.lt_iff_toInt_lt, nI_toInt (by omega), nI_toInt (by omega)]
    omega
  · obtain ⟨m2, hm2⟩ : ∃ m2, m = m2 + 1 := ⟨m - 1, by omega⟩
    rw [hm2, tq_wh_some (go _ 1 _ (by omega) (by decide) h1.2)]
    cases m2 with
    | zero => rfl
    | succ m3 => rw [tq_wh_none (st _ (q + 2) _ (by omega) (fun z => h2 ⟨by omega, z⟩))]
  · cases m with
    | zero => rfl
    | succ m2 => rw [tq_wh_none (st _ (q + 1) _ (by omega) (fun z => h1 ⟨by omega, z⟩))]
/-- the class's number -/
theorem tw_accN {a : tq_I} {p L : Nat} (hp : p < L) (hL : a 111 1 = nI L) (hL5 : L ≤ 150) (h4 : a 115 4 = nI 0) (hd : tw_dg (a 112 p)) : ((p + 1 < L ∧ tw_dg (a 112 (p + 1))) → (p + 2 < L ∧ tw_dg (a 112 (p + 2))) → r_X4_accept a p L = nI 0) ∧ ((p + 1 < L ∧ tw_dg (a 112 (p + 1))) → ¬ (p + 2 < L ∧ tw_dg (a 112 (p + 2))) → r_X4_accept a p L = (if tq_b (tw_ok (nI 10 * (a 112 p - nI 48) + a 112 (p + 1) - nI 48)) = 0 then nI 0 else nI 2) ∧ I_X4_accept a p L = (if tq_b (tw_ok (nI 10 * (a 112 p - nI 48) + a 112 (p + 1) - nI 48)) = 0 then a else tq_u a 115 4 (nI 10 * (a 112 p - nI 48) + a 112 (p + 1) - nI 48))) ∧ (¬ (p + 1 < L ∧ tw_dg (a 112 (p + 1))) → r_X4_accept a p L = (if tq_b (tw_ok (a 112 p - nI 48)) = 0 then nI 0 else nI 1) ∧ I_X4_accept a p L = (if tq_b (tw_ok (a 112 p - nI 48)) = 0 then a else tq_u a 115 4 (a 112 p - nI 48))) := by
  have n32 : ¬ a 112 p = nI 32 := fun z => by
    rw [z] at hd
    exact absurd hd (by decide)
  have e0 : a 115 4 = 0 := h4.trans (by decide)
  have nd : ¬ tq_b (tw_dg (a 112 p)) = 0 := fun z => tq_b0.mp z hd
  have l1 : (nI L ≤ nI p + nI 1) ↔ L ≤ p + 1 := by rw [nI_add, nI_leI (by omega) (by omega)]
  have l2 : (nI L ≤ nI p + nI 2) ↔ L ≤ p + 2 := by rw [nI_add, nI_leI (by omega) (by omega)]
  unfold r_X4_accept I_X4_accept r_X4_acceptNumber I_X4_acceptNumber
  rw [if_neg n32, if_neg n32, if_neg nd, if_neg nd, if_pos e0, if_pos e0, hL]
  refine ⟨fun h1 h2 => ?_, fun h1 h2 => ?_, fun h1 => ?_⟩
  · rw [if_neg (fun z => by have := l1.mp z; omega), if_neg (fun z => tq_b0.mp z h1.2), if_neg (fun z => by have := l2.mp z; omega), if_neg (fun z => tq_b0.mp z h2.2)]
  · have l1n : ¬ nI L ≤ nI p + nI 1 := fun z => by have := l1.mp z; omega
    have d1 : ¬ tq_b (tw_dg (a 112 (p + 1))) = 0 := fun z => tq_b0.mp z h1.2
    by_cases c : L ≤ p + 2
    · refine ⟨?_, ?_⟩
      · rw [if_neg l1n, if_neg d1, if_pos (l2.mpr c)]
      · rw [if_neg l1n, if_neg d1, if_pos (l2.mpr c)]
    · have c2 : tq_b (tw_dg (a 112 (p + 2))) = 0 := tq_b0.mpr (fun z => h2 ⟨by omega, z⟩)
      have c3 : ¬ nI L ≤ nI p + nI 2 := fun z => c (l2.mp z)
      refine ⟨?_, ?_⟩
      · rw [if_neg l1n, if_neg d1, if_neg c3, if_pos c2]
      · rw [if_neg l1n, if_neg d1, if_neg c3, if_pos c2]
  · by_cases c : L ≤ p + 1
    · rw [if_pos (l1.mpr c), if_pos (l1.mpr c)]
      exact ⟨rfl, rfl⟩
    · have c2 : ¬ tw_dg (a 112 (p + 1)) := fun z => h1 ⟨by omega, z⟩
      rw [if_neg (fun z => c (l1.mp z)), if_pos (tq_b0.mpr c2), if_neg (fun z => c (l1.mp z)), if_pos (tq_b0.mpr c2)]
      exact ⟨rfl, rfl⟩
/-- a number, on both sides -/
theorem tw_N {a b : tq_I} {L p : Nat} (hL : a 111 1 = nI L) (hL5 : L ≤ 150) (hpL : p ≤ L) (h3 : b 117 3 = nI L) (hp : b 117 19 = nI p) (hT : ∀ j, j < L → b 119 j = a 112 j) (h4 : a 115 4 = nI 0) : ∃ s, tr_skI b L = s ∧ p ≤ s ∧ s ≤ L ∧ (s < L → ¬ a 112 s = nI 32) ∧ (∀ r, tw_rn L s a r → tw_rn L p a r) ∧
    ((s < L ∧ r_X12_number b L = -1 ∧ I_X12_number b L 117 19 = nI s ∧ (∃ a', tw_rn L s a (nI s, a')) ∧ tw_dg (a 112 s)) ∨ (∃ v q, r_X12_number b L = nI v ∧ 1 ≤ v ∧ v ≤ 11 ∧ s < q ∧ q ≤ L ∧ I_X12_number b L 117 19 = nI q ∧ ∀ r, tw_rn L q (tq_u a 115 4 (nI v)) r → tw_rn L s a r) ∨ (r_X12_number b L = nI 1 ∧ I_X12_number b L 117 19 = nI s ∧ (s < L → ¬ tw_dg (a 112 s)))) := by
  obtain ⟨s, e1, h1, h2, h5, h6, h7⟩ := tw_here hL hL5 hpL h3 hp hT
  refine ⟨s, e1, h1, h2, h6, h5, ?_⟩
  have eh : I_X12_here b L 117 19 = nI s := by rw [tr_hereP, e1]
  have tx : tr_tx (I_X12_here b L) L := ⟨by rw [fs_here _ _ _ (by decide)]; exact h3, hL5, by rw [eh, nI_toInt (by omega)]; omega, by rw [eh, nI_toInt (by omega)]; omega⟩
  have tT : ∀ j, I_X12_here b L 119 j = b 119 j := fun j => fr_X12_here b L (by decide) j
  unfold r_X12_number I_X12_number
  rw [h7, eh, tq_N_nI (by omega)]
  by_cases hs : L ≤ s
  · right; right
    have nd : tq_b ((nI 48).toInt ≤ (if L ≤ s then (-1 : Int32) else a 112 s).toInt ∧ (if L ≤ s then (-1 : Int32) else a 112 s).toInt ≤ (nI 57).toInt) = 0 := by
      rw [if_pos hs]; decide
    rw [if_pos nd, if_pos nd]
    exact ⟨rfl, eh, fun z => by omega⟩
  · rw [if_neg hs]
    by_cases hd : tw_dg (a 112 s)
    · have nd : ¬ tq_b ((nI 48).toInt ≤ (a 112 s).toInt ∧ (a 112 s).toInt ≤ (nI 57).toInt) = 0 := fun z => tq_b0.mp z hd
      rw [if_neg nd, if_neg nd]
      obtain ⟨n1, n2, n3⟩ := tw_num tx eh (by omega) (by rw [tT, hT _ (by omega)]; exact hd)
      obtain ⟨c1, c2, c3⟩ := tw_accN (by omega) hL hL5 h4 hd
      generalize tq_wh (f_mnm1 (I_X12_here b L) L) (L - s) 0 (nI s, nI 0) = E at *
      have t1 : (s + 1 < L ∧ tw_dg (I_X12_here b L 119 (s + 1))) ↔ (s + 1 < L ∧ tw_dg (a 112 (s + 1))) := by
        constructor
        · rintro ⟨g1, g2⟩; rw [tT, hT _ g1] at g2; exact ⟨g1, g2⟩
        · rintro ⟨g1, g2⟩; refine ⟨g1, ?_⟩; rw [tT, hT _ g1]; exact g2
      have t2 : (s + 2 < L ∧ tw_dg (I_X12_here b L 119 (s + 2))) ↔ (s + 2 < L ∧ tw_dg (a 112 (s + 2))) := by
        constructor
        · rintro ⟨g1, g2⟩; rw [tT, hT _ g1] at g2; exact ⟨g1, g2⟩
        · rintro ⟨g1, g2⟩; refine ⟨g1, ?_⟩; rw [tT, hT _ g1]; exact g2
      have fin : ∀ (v : Int32) (d : Nat), d < 2 → s + (d + 1) ≤ L → E = (nI (s + (d + 1)), v) → r_X4_accept a s L = (if tq_b (tw_ok v) = 0 then nI 0 else nI (d + 1)) → I_X4_accept a s L = (if tq_b (tw_ok v) = 0 then a else tq_u a 115 4 v) → ((s < L ∧ (if nI 2 < E.1 - nI s then (-1 : Int32) else if tq_b ((nI 1).toInt ≤ E.2.toInt ∧ E.2.toInt ≤ (nI 11).toInt) = 0 then -1 else E.2) = -1 ∧ (if nI 2 < E.1 - nI s then I_X12_here b L else if tq_b ((nI 1).toInt ≤ E.2.toInt ∧ E.2.toInt ≤ (nI 11).toInt) = 0 then I_X12_here b L else tq_u (I_X12_here b L) 117 19 E.1) 117 19 = nI s ∧ (∃ a', tw_rn L s a (nI s, a')) ∧ tw_dg (a 112 s)) ∨ (∃ v q, (if nI 2 < E.1 - nI s then (-1 : Int32) else if tq_b ((nI 1).toInt ≤ E.2.toInt ∧ E.2.toInt ≤ (nI 11).toInt) = 0 then -1 else E.2) = nI v ∧ 1 ≤ v ∧ v ≤ 11 ∧ s < q ∧ q ≤ L ∧ (if nI 2 < E.1 - nI s then I_X12_here b L else if tq_b ((nI 1).toInt ≤ E.2.toInt ∧ E.2.toInt ≤ (nI 11).toInt) = 0 then I_X12_here b L else tq_u (I_X12_here b L) 117 19 E.1) 117 19 = nI q ∧ ∀ r, tw_rn L q (tq_u a 115 4 (nI v)) r → tw_rn L s a r)) := by
        intro v d hd2 hdL eE eR eI
        have n2' : ¬ nI 2 < nI (s + (d + 1)) - nI s := by rw [tw_ss, Int32.lt_iff_toInt_lt, nI_toInt (by omega), nI_toInt (by omega)]; omega
        rw [eE]
        dsimp only
        rw [if_neg n2', if_neg n2']
        by_cases ho : tw_ok v
        · right
          have ho' : ¬ tq_b (tw_ok v) = 0 := fun z => tq_b0.mp z ho
          rw [if_neg ho'] at eR eI
          rw [if_neg ho', if_neg ho', tq_u_same]
          have b1 : (nI 1).toInt = 1 := by decide
          have b2 : (nI 11).toInt = 11 := by decide
          have ev := tq_nIN (x := v) (by have := ho.1; omega)
          have ev2 := tq_NI (v := v) (by have := ho.1; omega)
          have o1 := ho.1
          have o2 := ho.2
          refine ⟨tq_N v, s + (d + 1), ev, by omega, by omega, by omega, hdL, rfl, fun r k => ?_⟩
          rw [← ev] at k
          exact tw_rn.go (tw_fog (by omega) hL hL5 eR (by omega) eI) (by omega) (by omega) k
        · left
          have ho' : tq_b (tw_ok v) = 0 := tq_b0.mpr ho
          rw [if_pos ho'] at eR
          rw [if_pos ho', if_pos ho']
          exact ⟨by omega, rfl, eh, ⟨_, tw_rn.no (tw_fon (by omega) hL hL5 eR) (by omega)⟩, hd⟩
      have fin2 : ∀ {P Q R : Prop}, P ∨ Q → P ∨ Q ∨ R := fun z => z.elim Or.inl (fun y => Or.inr (Or.inl y))
      by_cases w1 : s + 1 < L ∧ tw_dg (a 112 (s + 1))
      · by_cases w2 : s + 2 < L ∧ tw_dg (a 112 (s + 2))
        · left
          have g := n1 (t1.mpr w1) (t2.mpr w2)
          rw [if_pos g, if_pos g]
          exact ⟨by omega, rfl, eh, ⟨_, tw_rn.no (tw_fon (by omega) hL hL5 (c1 w1 w2)) (by omega)⟩, hd⟩
        · have g := n2 (t1.mpr w1) (fun z => w2 (t2.mp z))
          rw [tT, tT, hT _ (by omega), hT _ w1.1] at g
          obtain ⟨r1, r2⟩ := c2 w1 w2
          exact fin2 (fin _ 1 (by decide) (by omega) g r1 r2)
      · have g := n3 (fun z => w1 (t1.mp z))
        rw [tT, hT _ (by omega)] at g
        obtain ⟨r1, r2⟩ := c3 w1
        exact fin2 (fin _ 0 (by decide) (by omega) g r1 r2)
    · right; right
      have nd : tq_b ((nI 48).toInt ≤ (a 112 s).toInt ∧ (a 112 s).toInt ≤ (nI 57).toInt) = 0 := tq_b0.mpr hd
      rw [if_pos nd, if_pos nd]
      exact ⟨rfl, eh, fun _ => hd⟩
