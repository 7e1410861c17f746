/-! an item, on both sides -/
theorem tw_sk0 (T : Nat → Int32) {L s : Nat} (h : L ≤ s ∨ ¬ T s = nI 32) : tr_sk T (L - s) s = s := by
  cases e : L - s with
  | zero => rfl
  | succ n =>
    unfold tr_sk
    rw [if_neg (h.resolve_left (by omega))]
theorem tw_uid {I : tq_I} {c k : Nat} {v : Int32} (h : I c k = v) : tq_u I c k v = I := by
  funext x y
  unfold tq_u
  split
  · rename_i g; rw [g.1, g.2, h]
  · rfl
def tw_sim (A B : tq_I) (L p : Nat) (a b : tq_I) (ro co wd : Nat) : Prop := p ≤ L ∧ (∀ cz, cz ≠ 115 → cz ≠ 116 → ∀ j, a cz j = A cz j) ∧ (∀ cz, cz ≠ 117 → cz ≠ 130 → ∀ j, b cz j = B cz j) ∧ (b 117 3 = nI L ∧ b 117 19 = nI p) ∧ (a 115 1 = nI ro ∧ b 117 22 = nI ro ∧ ro ≤ 10) ∧ (a 115 2 = nI co ∧ b 117 23 = nI co ∧ co ≤ 11) ∧ a 115 4 = nI 0 ∧ (ro ≠ 0 → a 115 3 = nI wd ∧ b 117 21 = nI wd ∧ 2 ≤ wd ∧ wd ≤ 11) ∧ ∀ x y, (y < ro ∧ x < wd) ∨ (y = ro ∧ x < co) → a 116 (y * 11 + x) = b 130 (y * 11 + x)
theorem tw_m97 : ∀ n, n < 256 → (nI n - nI 97).toInt = (n : Int) - 97 := by decide +kernel
theorem tw_z1 {ro : Nat} (h : ro ≤ 20) : (nI ro = 0) ↔ ro = 0 := by
  constructor
  · intro z; exact tr_inj (by omega) (by omega) (z.trans (show (0 : Int32) = nI 0 by decide))
  · intro z; rw [z]; decide
theorem tw_nm1 {v : Nat} (h : v ≤ 20) : ¬ nI v = -1 := fun z => by
  have := congrArg Int32.toInt z
  rw [nI_toInt (by omega)] at this
  have h3 : (-1 : Int32).toInt = -1 := by decide
  omega
/-- a row with no corner yet isn't whole -/
theorem tw_nw {a : tq_I} {ro wd : Nat} (h1 : a 115 1 = nI ro) (hro : ro ≤ 10) (h2 : a 115 2 = nI 0) (h3 : ro ≠ 0 → a 115 3 = nI wd ∧ 2 ≤ wd ∧ wd ≤ 11) : r_X4_isRowWhole a = nI 0 := by
  unfold r_X4_isRowWhole
  rw [h1, h2]
  by_cases c : ro = 0
  · rw [if_pos ((tw_z1 (by omega)).mpr c), if_pos (by decide)]
  · rw [if_neg (fun z => c ((tw_z1 (by omega)).mp z)), (h3 c).1, if_neg (fun z => by have := tr_inj (by omega) (by have := (h3 c).2; omega) z; have := (h3 c).2; omega)]
/-- the class refuses what is no letter -/
theorem tw_bad {a : tq_I} {L s nm ro wd co : Nat} (hL5 : L ≤ 150) (h112 : 0 ≤ (a 112 s).toInt ∧ (a 112 s).toInt ≤ 255) (h32 : ¬ a 112 s = nI 32) (hl : ¬ ((nI 97).toInt ≤ (a 112 s).toInt ∧ (a 112 s).toInt ≤ (nI 102).toInt)) (h4 : a 115 4 = nI nm) (hnm : nm ≤ 11) (h1 : a 115 1 = nI ro) (hro : ro ≤ 10) (h2 : a 115 2 = nI co) (h3 : ro ≠ 0 → a 115 3 = nI wd ∧ 2 ≤ wd ∧ wd ≤ 11) (hn : nm ≠ 0 ∨ (¬ tw_dg (a 112 s) ∧ (co = 0 ∨ ¬ a 112 s = nI 47))) : r_X4_accept a s L = nI 0 := by
  have e97 : (nI 97).toInt = 97 := by decide
  have e102 : (nI 102).toInt = 102 := by decide
  have e0 : (nI 0).toInt = 0 := by decide
  have e5 : (nI 5).toInt = 5 := by decide
  have ev := tq_nIN h112.1
  have ev2 := tq_NI h112.1
  have e2 : (a 112 s - nI 97).toInt = (a 112 s).toInt - 97 := by
    conv => lhs; rw [ev]
    rw [tw_m97 _ (by omega)]; omega
  have lt : tq_b ((nI 0).toInt ≤ (a 112 s - nI 97).toInt ∧ (a 112 s - nI 97).toInt ≤ (nI 5).toInt) = 0 := tq_b0.mpr (fun z => hl (by rw [e97, e102]; rw [e2, e0, e5] at z; omega))
  unfold r_X4_accept
  rw [if_neg h32]
  by_cases hd : tw_dg (a 112 s)
  · have nz : ¬ a 115 4 = 0 := fun z => by
      rw [h4, tw_z1 (by omega)] at z
      rcases hn with g | g
      · exact g z
      · exact g.1 hd
    rw [if_neg (fun z => tq_b0.mp z hd)]
    unfold r_X4_acceptNumber
    rw [if_neg nz]
  · rw [if_pos (tq_b0.mpr hd)]
    by_cases h47 : a 112 s = nI 47
    · rw [if_pos h47]
      unfold r_X4_acceptRowEnd
      by_cases nz : a 115 4 = 0
      · rw [if_pos nz]
        rcases hn with g | ⟨-, g⟩
        · rw [h4, tw_z1 (by omega)] at nz
          exact absurd nz g
        · have hco := g.resolve_right (fun z => z h47)
          rw [tw_nw h1 hro (by rw [h2, hco]) h3, if_pos (by decide)]
      · rw [if_neg nz]
    · rw [if_neg h47, if_pos lt]
/-- the end of the text behind a number, or in an empty row -/
theorem tw_end1 {a : tq_I} {L nm ro wd co : Nat} (hL : a 111 1 = nI L) (hL5 : L ≤ 150) (h4 : a 115 4 = nI nm) (hnm : nm ≤ 11) (h1 : a 115 1 = nI ro) (hro : ro ≤ 10) (h2 : a 115 2 = nI co) (h3 : ro ≠ 0 → a 115 3 = nI wd ∧ 2 ≤ wd ∧ wd ≤ 11) (hn : nm ≠ 0 ∨ co = 0) : ∃ a', tw_rn L L a (nI L, a') := by
  have e : d_fo1 L (nI L, a) = (nI L, a) := by
    unfold d_fo1
    by_cases nz : a 115 4 = 0
    · rw [if_pos nz]
      have hco : co = 0 := by
        rcases hn with g | g
        · rw [h4, tw_z1 (by omega)] at nz
          exact absurd nz g
        · exact g
      have w0 : r_X4_isRowWhole a = 0 := by rw [tw_nw h1 hro (by rw [h2, hco]) h3]; decide
      simp only [if_pos w0, hL, ite_self]
    · rw [if_neg nz]
      simp only [hL]
  exact ⟨a, by rw [← e]; exact tw_rn.en hL hL5⟩
/-- the class at a letter -/
theorem tw_let {a : tq_I} {L s t ro wd co nm : Nat} (hs : a 112 s = nI (97 + t)) (ht : t < 6) (h4 : a 115 4 = nI nm) (hnm : nm ≤ 11) (h1 : a 115 1 = nI ro) (hro : ro ≤ 10) (h2 : a 115 2 = nI co) (hco : co ≤ 11) (h3 : ro ≠ 0 → a 115 3 = nI wd ∧ 2 ≤ wd ∧ wd ≤ 11) : (¬ co + max nm 1 ≤ (if ro = 0 then 11 else wd) → r_X4_accept a s L = nI 0) ∧ (co + max nm 1 ≤ (if ro = 0 then 11 else wd) → r_X4_accept a s L = nI 1 ∧ I_X4_accept a s L = tq_u (tq_u (tq_it (f_al1 (nI t) ro co (co + max nm 1)) (max nm 1) 0 a) 115 2 (nI (co + max nm 1))) 115 4 (nI 0)) := by
  have n32 : ¬ a 112 s = nI 32 := fun z => by rw [hs] at z; have := tr_inj (by omega) (by omega) z; omega
  have n47 : ¬ a 112 s = nI 47 := fun z => by rw [hs] at z; have := tr_inj (by omega) (by omega) z; omega
  have nd : tq_b (tw_dg (a 112 s)) = 0 := tq_b0.mpr (fun z => by
    have := z.2
    rw [hs, nI_toInt (by omega), show (nI 57).toInt = 57 by decide] at this
    omega)
  have e97 : a 112 s - nI 97 = nI t := by rw [hs, tw_ss]
  have lt : ¬ tq_b ((nI 0).toInt ≤ (a 112 s - nI 97).toInt ∧ (a 112 s - nI 97).toInt ≤ (nI 5).toInt) = 0 := fun z => tq_b0.mp z (by rw [e97, nI_toInt (by omega), nI_toInt (by omega), nI_toInt (by omega)]; omega)
  have c2 : tq_N (a 115 2) = co := by rw [h2, tq_N_nI (by omega)]
  have c4 : tq_N (a 115 4) = nm := by rw [h4, tq_N_nI (by omega)]
  have c1 : tq_N (a 115 1) = ro := by rw [h1, tq_N_nI (by omega)]
  have eR : r_X4_accept a s L = r_X4_acceptLetter a (nI t) := by
    unfold r_X4_accept
    rw [if_neg n32, if_pos nd, if_neg n47, if_neg lt, e97]
  have eI : I_X4_accept a s L = I_X4_acceptLetter a (nI t) := by
    unfold I_X4_accept
    rw [if_neg n32, if_pos nd, if_neg n47, if_neg lt, e97]
  rw [eR, eI]
  unfold r_X4_acceptLetter I_X4_acceptLetter
  rw [c2, c4, c1, h1, show co + max nm 1 - co = max nm 1 by omega]
  by_cases c : ro = 0
  · have cz : nI ro = 0 := (tw_z1 (by omega)).mpr c
    rw [if_pos cz, if_pos cz, if_pos c]
    refine ⟨fun g => ?_, fun g => ?_⟩
    · rw [if_neg (fun z => g ((nI_leI (by omega) (by omega)).mp z))]
    · rw [if_pos ((nI_leI (by omega) (by omega)).mpr g), if_pos ((nI_leI (by omega) (by omega)).mpr g)]
      exact ⟨rfl, rfl⟩
  · have cz : ¬ nI ro = 0 := fun z => c ((tw_z1 (by omega)).mp z)
    have h3' := h3 c
    rw [if_neg cz, if_neg cz, if_neg c, h3'.1]
    refine ⟨fun g => ?_, fun g => ?_⟩
    · rw [if_neg (fun z => g ((nI_leI (by omega) (by omega)).mp z))]
    · rw [if_pos ((nI_leI (by omega) (by omega)).mpr g), if_pos ((nI_leI (by omega) (by omega)).mpr g)]
      exact ⟨rfl, rfl⟩
/-- the reference's item, by what it finds -/
theorem tw_refI {b : tq_I} {L v ro wd co : Nat} (hm : r_X12_number b L = nI v) (hv : 1 ≤ v ∧ v ≤ 11) (h1 : b 117 22 = nI ro) (hro : ro ≤ 10) (h2 : b 117 23 = nI co) (hco : co ≤ 11) (h3 : ro ≠ 0 → b 117 21 = nI wd ∧ 2 ≤ wd ∧ wd ≤ 11) : (tq_b ((nI 97).toInt ≤ (r_X12_here (I_X12_number b L) L).toInt ∧ (r_X12_here (I_X12_number b L) L).toInt ≤ (nI 102).toInt) = 0 → r_X12_readsItem b L = nI 0 ∧ I_X12_readsItem b L = I_X12_here (I_X12_number b L) L) ∧ (¬ tq_b ((nI 97).toInt ≤ (r_X12_here (I_X12_number b L) L).toInt ∧ (r_X12_here (I_X12_number b L) L).toInt ≤ (nI 102).toInt) = 0 → (¬ co + v ≤ (if ro = 0 then 11 else wd) → r_X12_readsItem b L = nI 0 ∧ I_X12_readsItem b L = I_X12_here (I_X12_number b L) L) ∧ (co + v ≤ (if ro = 0 then 11 else wd) → r_X12_readsItem b L = nI 1 ∧ ∃ X, I_X12_readsItem b L = tq_u (tq_it (f_mri1 (nI v) (r_X12_here (I_X12_number b L) L) X ro co v) v 0 (tq_u (I_X12_here (I_X12_number b L) L) 117 19 (I_X12_here (I_X12_number b L) L 117 19 + nI 1))) 117 23 (nI (co + v)))) := by
  have e22 : I_X12_here (I_X12_number b L) L 117 22 = nI ro := by rw [fs_here _ _ _ (by decide), fs_number _ _ _ (by decide)]; exact h1
  have e23 : I_X12_here (I_X12_number b L) L 117 23 = nI co := by rw [fs_here _ _ _ (by decide), fs_number _ _ _ (by decide)]; exact h2
  have e21 : I_X12_here (I_X12_number b L) L 117 21 = b 117 21 := by rw [fs_here _ _ _ (by decide), fs_number _ _ _ (by decide)]
  have c1 : tq_N (b 117 22) = ro := by rw [h1, tq_N_nI (by omega)]
  have c2 : tq_N (b 117 23) = co := by rw [h2, tq_N_nI (by omega)]
  have c3 : tq_N (nI v) = v := tq_N_nI (by omega)
  have fin : ∀ X : Int32, tq_it (f_mri1 (nI v) (r_X12_here (I_X12_number b L) L) X ro co v) v 0 (tq_u (I_X12_here (I_X12_number b L) L) 117 19 (I_X12_here (I_X12_number b L) L 117 19 + nI 1)) 117 23 + nI v = nI (co + v) := fun X => by
    rw [fs_ri1, tq_u_slot (by decide), e23, nI_add]
  unfold r_X12_readsItem I_X12_readsItem
  rw [hm, c1, c2, c3, e22, e23, e21, nI_add]
  have nm := tw_nm1 (v := v) (by omega)
  by_cases c : ro = 0
  · have cz : nI ro = 0 := (tw_z1 (by omega)).mpr c
    rw [if_pos cz, if_pos cz, if_neg nm, if_neg nm, if_pos c]
    refine ⟨fun g => ?_, fun g => ⟨fun g2 => ?_, fun g2 => ?_⟩⟩
    · rw [if_pos g, if_pos g]; exact ⟨rfl, rfl⟩
    · have g3 : ¬ nI (co + v) ≤ nI 11 := fun z => g2 ((nI_leI (by omega) (by omega)).mp z)
      rw [if_neg g, if_neg g3, if_neg g, if_neg g3]; exact ⟨rfl, rfl⟩
    · have g3 : nI (co + v) ≤ nI 11 := (nI_leI (by omega) (by omega)).mpr g2
      rw [if_neg g, if_pos g3, if_neg g, if_pos g3, fin]; exact ⟨rfl, _, rfl⟩
  · have cz : ¬ nI ro = 0 := fun z => c ((tw_z1 (by omega)).mp z)
    have h3' := h3 c
    rw [if_neg cz, if_neg cz, if_neg nm, if_neg nm, if_neg c, h3'.1]
    refine ⟨fun g => ?_, fun g => ⟨fun g2 => ?_, fun g2 => ?_⟩⟩
    · rw [if_pos g, if_pos g]; exact ⟨rfl, rfl⟩
    · have g3 : ¬ nI (co + v) ≤ nI wd := fun z => g2 ((nI_leI (by omega) (by omega)).mp z)
      rw [if_neg g, if_neg g3, if_neg g, if_neg g3]; exact ⟨rfl, rfl⟩
    · have g3 : nI (co + v) ≤ nI wd := (nI_leI (by omega) (by omega)).mpr g2
      rw [if_neg g, if_pos g3, if_neg g, if_pos g3, fin]; exact ⟨rfl, _, rfl⟩
theorem tw_refF {b : tq_I} {L : Nat} (hm : r_X12_number b L = -1) : r_X12_readsItem b L = nI 0 ∧ I_X12_readsItem b L = I_X12_here (I_X12_number b L) L := by
  unfold r_X12_readsItem I_X12_readsItem
  refine ⟨?_, ?_⟩
  · by_cases c : I_X12_here (I_X12_number b L) L 117 22 = 0
    · rw [if_pos c, if_pos hm]
    · rw [if_neg c, if_pos hm]
  · by_cases c : I_X12_here (I_X12_number b L) L 117 22 = 0
    · rw [if_pos c, if_pos hm]
    · rw [if_neg c, if_pos hm]
theorem tw_item {A B a b : tq_I} {L p ro co wd : Nat} (tx : tw_txt A B L) (k : tw_sim A B L p a b ro co wd) (hf : co = 0 ∨ (tr_skI b L < L ∧ ¬ a 112 (tr_skI b L) = nI 47)) :
    (r_X12_readsItem b L = nI 0 ∧ ∃ z a', z ≤ L ∧ I_X12_readsItem b L 117 19 = nI z ∧ tw_rn L p a (nI z, a')) ∨ (r_X12_readsItem b L = nI 1 ∧ ∃ q a' co', tw_sim A B L q a' (I_X12_readsItem b L) ro co' wd ∧ p < q ∧ 1 ≤ co' ∧ ∀ r, tw_rn L q a' r → tw_rn L p a r) := by
  obtain ⟨hpL, kA, kB, ⟨b3, b19⟩, ⟨a1, b22, hro⟩, ⟨a2, b23, hco⟩, a4, kw, kt⟩ := k
  obtain ⟨t1, t2, hL5, t4⟩ := tx
  have hL : a 111 1 = nI L := by rw [kA 111 (by decide) (by decide)]; exact t1
  have hT : ∀ j, j < L → b 119 j = a 112 j := fun j hj => by rw [kB 119 (by decide) (by decide), kA 112 (by decide) (by decide)]; exact (t4 j hj).1.symm
  have hV : ∀ j, j < L → 0 ≤ (a 112 j).toInt ∧ (a 112 j).toInt ≤ 255 := fun j hj => by rw [kA 112 (by decide) (by decide)]; exact (t4 j hj).2
  have kwA : ro ≠ 0 → a 115 3 = nI wd ∧ 2 ≤ wd ∧ wd ≤ 11 := fun z => ⟨(kw z).1, (kw z).2.2⟩
  have kwB : ro ≠ 0 → b 117 21 = nI wd ∧ 2 ≤ wd ∧ wd ≤ 11 := fun z => (kw z).2
  obtain ⟨s, es, h1, h2, h6, h5, hc⟩ := tw_N hL hL5 hpL b3 b19 hT a4
  rw [es] at hf
  have n3 : I_X12_number b L 117 3 = nI L := by rw [fs_number _ _ _ (by decide)]; exact b3
  have nT : ∀ j, I_X12_number b L 119 j = b 119 j := fun j => fr_X12_number b L (by decide) j
  -- the two ways without a fault in the number, as one
  have main : ∀ (v q nm : Nat), r_X12_number b L = nI v → 1 ≤ v → v ≤ 11 → I_X12_number b L 117 19 = nI q → p ≤ q → q ≤ L → max nm 1 = v → nm ≤ 11 → (∀ r, tw_rn L q (tq_u a 115 4 (nI nm)) r → tw_rn L p a r) → (nm ≠ 0 ∨ (nm = 0 ∧ q = s ∧ (s < L → ¬ tw_dg (a 112 s)))) → (r_X12_readsItem b L = nI 0 ∧ ∃ z a', z ≤ L ∧ I_X12_readsItem b L 117 19 = nI z ∧ tw_rn L p a (nI z, a')) ∨ (r_X12_readsItem b L = nI 1 ∧ ∃ q a' co', tw_sim A B L q a' (I_X12_readsItem b L) ro co' wd ∧ p < q ∧ 1 ≤ co' ∧ ∀ r, tw_rn L q a' r → tw_rn L p a r) := by
    intro v q nm hm hv1 hv2 eq hpq hqL hmax hnm hrun hcase
    have g112 : ∀ j, tq_u a 115 4 (nI nm) 112 j = a 112 j := fun j => tq_u_cell (by decide)
    have g1 : tq_u a 115 4 (nI nm) 115 1 = nI ro := by rw [tq_u_slot (by decide)]; exact a1
    have g2 : tq_u a 115 4 (nI nm) 115 2 = nI co := by rw [tq_u_slot (by decide)]; exact a2
    have g3 : ro ≠ 0 → tq_u a 115 4 (nI nm) 115 3 = nI wd ∧ 2 ≤ wd ∧ wd ≤ 11 := fun z => by rw [tq_u_slot (by decide)]; exact kwA z
    have g4 : tq_u a 115 4 (nI nm) 115 4 = nI nm := tq_u_same
    have gL : tq_u a 115 4 (nI nm) 111 1 = nI L := by rw [tq_u_cell (by decide)]; exact hL
    have gA : ∀ cz, cz ≠ 115 → ∀ j, tq_u a 115 4 (nI nm) cz j = a cz j := fun cz hz j => tq_u_cell hz
    generalize tq_u a 115 4 (nI nm) = a2' at *
    obtain ⟨s2, es2, u1, u2, u5, u6, u7⟩ := tw_here gL hL5 hqL n3 eq (fun j hj => by rw [nT, g112]; exact hT j hj)
    have eH : I_X12_here (I_X12_number b L) L 117 19 = nI s2 := by rw [tr_hereP, es2]
    obtain ⟨r1, r2⟩ := tw_refI hm ⟨hv1, hv2⟩ b22 hro b23 hco kwB
    -- what stands there, when there was no number
    have hz : nm = 0 → s2 = s := fun z => by
      rcases hcase with g | ⟨-, e, -⟩
      · exact absurd z g
      · have : tr_skI (I_X12_number b L) L = s := by
          unfold tr_skI
          rw [eq, tq_N_nI (by omega), e]
          exact tw_sk0 _ (by
            by_cases c : L ≤ s
            · exact Or.inl c
            · right
              rw [nT, hT _ (by omega)]
              exact h6 (by omega))
        rw [← es2]; exact this
    by_cases hs : L ≤ s2
    · left
      have e2 : s2 = L := by omega
      have nb : tq_b ((nI 97).toInt ≤ (r_X12_here (I_X12_number b L) L).toInt ∧ (r_X12_here (I_X12_number b L) L).toInt ≤ (nI 102).toInt) = 0 := by
        rw [u7, if_pos hs]; decide
      obtain ⟨q1, q2⟩ := r1 nb
      have hn : nm ≠ 0 ∨ co = 0 := by
        by_cases z : nm = 0
        · right
          rcases hf with g | g
          · exact g
          · have := hz z; omega
        · exact Or.inl z
      obtain ⟨a', ha'⟩ := tw_end1 gL hL5 g4 hnm g1 hro g2 g3 hn
      refine ⟨q1, L, a', by omega, by rw [q2, eH, e2], hrun _ (u5 _ ?_)⟩
      rw [e2]; exact ha'
    · rw [if_neg hs, g112] at u7
      have v6 := u6 (by omega)
      by_cases hl : (nI 97).toInt ≤ (a 112 s2).toInt ∧ (a 112 s2).toInt ≤ (nI 102).toInt
      · have nb : ¬ tq_b ((nI 97).toInt ≤ (r_X12_here (I_X12_number b L) L).toInt ∧ (r_X12_here (I_X12_number b L) L).toInt ≤ (nI 102).toInt) = 0 := fun z => tq_b0.mp z (by rw [u7]; exact hl)
        obtain ⟨t, ht, et⟩ : ∃ t, t < 6 ∧ a 112 s2 = nI (97 + t) := by
          have hl' := hl
          rw [show (nI 97).toInt = 97 by decide, show (nI 102).toInt = 102 by decide] at hl'
          have ev := tq_nIN (x := a 112 s2) (by omega)
          have ev2 := tq_NI (v := a 112 s2) (by omega)
          exact ⟨tq_N (a 112 s2) - 97, by omega, by rw [show 97 + (tq_N (a 112 s2) - 97) = tq_N (a 112 s2) by omega]; exact ev⟩
        obtain ⟨l1, l2⟩ := tw_let (L := L) (s := s2) (by rw [g112]; exact et) ht g4 hnm g1 hro g2 hco g3
        rw [hmax] at l1 l2
        by_cases hov : co + v ≤ (if ro = 0 then 11 else wd)
        · right
          obtain ⟨q1, X, q2⟩ := (r2 nb).2 hov
          obtain ⟨c1, c2⟩ := l2 hov
          have hcv : co + v ≤ 11 := by
            by_cases z : ro = 0
            · rw [if_pos z] at hov; exact hov
            · rw [if_neg z] at hov; have := (kw z).2.2.2; omega
          refine ⟨q1, s2 + 1, _, co + v, ?_, by omega, by omega, fun r kr => hrun r (u5 r (tw_rn.go (tw_fog (k := 0) (by omega) gL hL5 c1 (by decide) c2) (by omega) (by omega) kr))⟩
          rw [q2, u7, eH, nI_add]
          obtain ⟨x1, x2⟩ := tw_fill0 (f := f_al1 (nI t) ro co (co + v)) (cc := 116) (b := ro * 11 + co) (v := nI t) (fun i z => by unfold f_al1; rw [Nat.add_assoc]) v a2'
          obtain ⟨y1, y2⟩ := tw_fill0 (f := f_mri1 (nI v) (a 112 s2) X ro co v) (cc := 130) (b := 11 * ro + co) (v := a 112 s2 - nI 97) (fun i z => rfl) v (tq_u (I_X12_here (I_X12_number b L) L) 117 19 (nI (s2 + 1)))
          generalize tq_it (f_al1 (nI t) ro co (co + v)) v 0 a2' = F at *
          generalize tq_it (f_mri1 (nI v) (a 112 s2) X ro co v) v 0 (tq_u (I_X12_here (I_X12_number b L) L) 117 19 (nI (s2 + 1))) = G at *
          have y7 : ∀ j, j ≠ 19 → G 117 j = b 117 j := fun j hj => by rw [y1 117 (by decide), tq_u_slot hj, fs_here _ _ _ hj, fs_number _ _ _ hj]
          have yo : ∀ cz, cz ≠ 117 → cz ≠ 130 → ∀ j, G cz j = b cz j := fun cz z1 z2 j => by rw [y1 cz z2, tq_u_cell z1, fr_X12_here _ _ z1, fr_X12_number _ _ z1]
          have y30 : ∀ j, tq_u (I_X12_here (I_X12_number b L) L) 117 19 (nI (s2 + 1)) 130 j = b 130 j := fun j => by rw [tq_u_cell (by decide), fr_X12_here _ _ (by decide), fr_X12_number _ _ (by decide)]
          refine ⟨by omega, fun cz z1 z2 j => ?_, fun cz z1 z2 j => ?_, ⟨?_, ?_⟩, ⟨?_, ?_, hro⟩, ⟨?_, tq_u_same, hcv⟩, tq_u_same, fun z => ⟨?_, ?_, (kw z).2.2⟩, fun x y hxy => ?_⟩
          · rw [tq_u_cell z1, tq_u_cell z1, x1 cz z2, gA cz z1]; exact kA cz z1 z2 j
          · rw [tq_u_cell z1, yo cz z1 z2]; exact kB cz z1 z2 j
          · rw [tq_u_slot (by decide), y7 _ (by decide)]; exact b3
          · rw [tq_u_slot (by decide), y1 117 (by decide), tq_u_same]
          · rw [tq_u_slot (by decide), tq_u_slot (by decide), x1 115 (by decide)]; exact g1
          · rw [tq_u_slot (by decide), y7 _ (by decide)]; exact b22
          · rw [tq_u_slot (by decide), tq_u_same]
          · rw [tq_u_slot (by decide), tq_u_slot (by decide), x1 115 (by decide)]; exact (g3 z).1
          · rw [tq_u_slot (by decide), y7 _ (by decide)]; exact (kw z).2.1
          · rw [tq_u_cell (show (116 : Nat) ≠ 115 by decide), tq_u_cell (show (116 : Nat) ≠ 115 by decide), tq_u_cell (show (130 : Nat) ≠ 117 by decide), x2, y2, y30, gA 116 (by decide)]
            have hwd : y < ro → wd ≤ 11 := fun z => (kw (by omega)).2.2.2
            by_cases c : ro * 11 + co ≤ y * 11 + x ∧ y * 11 + x < ro * 11 + co + v
            · rw [if_pos c, if_pos (by omega), et, tw_ss]
            · rw [if_neg c, if_neg (by omega)]
              refine kt x y ?_
              rcases hxy with g | g
              · exact Or.inl g
              · right; omega
        · left
          obtain ⟨q1, q2⟩ := (r2 nb).1 hov
          exact ⟨q1, s2, _, by omega, by rw [q2, eH], hrun _ (u5 _ (tw_rn.no (tw_fon (by omega) gL hL5 (l1 hov)) (by omega)))⟩
      · left
        have nb : tq_b ((nI 97).toInt ≤ (r_X12_here (I_X12_number b L) L).toInt ∧ (r_X12_here (I_X12_number b L) L).toInt ≤ (nI 102).toInt) = 0 := tq_b0.mpr (by rw [u7]; exact hl)
        obtain ⟨q1, q2⟩ := r1 nb
        have hbad : r_X4_accept a2' s2 L = nI 0 := by
          refine tw_bad hL5 (by rw [g112]; exact hV _ (by omega)) v6 (by rw [g112]; exact hl) g4 hnm g1 hro g2 g3 ?_
          by_cases z : nm = 0
          · right
            have hs2 := hz z
            rcases hcase with g | ⟨-, -, g⟩
            · exact absurd z g
            · rw [g112, hs2]
              exact ⟨g (by omega), hf.imp id (fun y => y.2)⟩
          · exact Or.inl z
        exact ⟨q1, s2, _, by omega, by rw [q2, eH], hrun _ (u5 _ (tw_rn.no (tw_fon (by omega) gL hL5 hbad) (by omega)))⟩
  rcases hc with ⟨c1, c2, c3, ⟨a', c4⟩, c5⟩ | ⟨v, q, c1, c2, c3, c4, c5, c6, c7⟩ | ⟨c1, c2, c3⟩
  · left
    obtain ⟨q1, q2⟩ := tw_refF c2
    refine ⟨q1, s, a', h2, ?_, h5 _ c4⟩
    rw [q2, tr_hereP]
    have : tr_skI (I_X12_number b L) L = s := by
      unfold tr_skI
      rw [c3, tq_N_nI (by omega)]
      exact tw_sk0 _ (Or.inr (by rw [nT, hT _ c1]; exact h6 c1))
    rw [this]
  · exact main v q v c1 c2 c3 c6 (by omega) c5 (by omega) c3 (fun r kr => h5 r (c7 r kr)) (Or.inl (by omega))
  · exact main 1 s 0 c1 (by omega) (by omega) c2 h1 h2 (by omega) (by omega) (fun r kr => h5 r (by rw [tw_uid a4] at kr; exact kr)) (Or.inr ⟨rfl, rfl, c3⟩)
