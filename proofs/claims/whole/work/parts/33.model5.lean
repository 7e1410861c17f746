/-! makesUp: which masks make up one; the measure by which its search ends -/
def tr_ms (p : Nat → Nat) : Nat → Nat
  | 0 => 1 + (16 - p 0) * 4913
  | 1 => 1 + (16 - p 0) * 4913 + (16 - p 1) * 289
  | 2 => 1 + (16 - p 0) * 4913 + (16 - p 1) * 289 + (16 - p 2) * 17
  | _ => 1 + (16 - p 0) * 4913 + (16 - p 1) * 289 + (16 - p 2) * 17 + (16 - p 3)
def tr_mu (v : Int32) (I : tq_I) : Nat := if v < 0 then 0 else tr_ms (fun k => tq_N (I 124 k)) (tq_N v)
def tr_mi (mk q : Nat) (v : Int32) (I : tq_I) : Prop := -1 ≤ v.toInt ∧ v.toInt < (q : Int) ∧ ∀ k : Nat, (k : Int) ≤ v.toInt → 0 ≤ (I 124 k).toInt ∧ (I 124 k).toInt ≤ (mk : Int)
theorem tr_mi0 {mk q : Nat} {v : Int32} {I : tq_I} (h : tr_mi mk q v I) (hq : q ≤ 4) (h0 : ¬ v < 0) : v = nI (tq_N v) ∧ tq_N v < 4 ∧ v.toInt = (tq_N v : Int) ∧ tq_N v < q ∧ (∀ k, k ≤ tq_N v → I 124 k = nI (tq_N (I 124 k)) ∧ tq_N (I 124 k) ≤ mk) := by
  have h1 : 0 ≤ v.toInt := by
    rw [Int32.lt_iff_toInt_lt, Int32.toInt_zero] at h0
    omega
  have h2 := tq_NI h1
  have h3 := h.2.1
  refine ⟨tq_nIN h1, by omega, h2, by omega, fun k hk => ?_⟩
  have h4 := h.2.2 k (by omega)
  refine ⟨tq_nIN h4.1, ?_⟩
  unfold tq_N
  omega
theorem tr_muL {v : Int32} {I : tq_I} (h0 : ¬ v < 0) : 1 ≤ tr_mu v I := by
  unfold tr_mu
  rw [if_neg h0]
  unfold tr_ms
  split <;> omega
theorem tr_msc {p p' : Nat → Nat} {m : Nat} (h : ∀ k, k ≤ m → p' k = p k) : tr_ms p' m = tr_ms p m := by
  unfold tr_ms
  split
  · rw [h 0 (by omega)]
  · rw [h 0 (by omega), h 1 (by omega)]
  · rw [h 0 (by omega), h 1 (by omega), h 2 (by omega)]
  · rename_i h1 h2 h3
    have h4 : 3 ≤ m := by
      rcases m with _ | _ | _ | m
      · exact absurd rfl h1
      · exact absurd rfl h2
      · exact absurd rfl h3
      · omega
    rw [h 0 (by omega), h 1 (by omega), h 2 (by omega), h 3 (by omega)]
/-- what is left after one more at the top -/
theorem tr_mstep {p p' : Nat → Nat} {m : Nat} (hm : m < 4) (h : ∀ k, k < m → p' k = p k) (hp : p m ≤ 15) (h1 : p' m = p m + 1) : tr_ms p' m < tr_ms p m ∧ (∀ j, m = j + 1 → tr_ms p' j < tr_ms p m) ∧ (m < 3 → tr_ms p' (m + 1) < tr_ms p m) := by
  rcases (show m = 0 ∨ m = 1 ∨ m = 2 ∨ m = 3 by omega) with rfl | rfl | rfl | rfl
  · refine ⟨?_, fun j hj => by omega, fun _ => ?_⟩ <;> simp only [tr_ms] <;> omega
  · have e0 := h 0 (by omega)
    refine ⟨?_, fun j hj => ?_, fun _ => ?_⟩
    · simp only [tr_ms]; omega
    · rw [show j = 0 by omega]; simp only [tr_ms]; omega
    · simp only [tr_ms]; omega
  · have e0 := h 0 (by omega)
    have e1 := h 1 (by omega)
    refine ⟨?_, fun j hj => ?_, fun _ => ?_⟩
    · simp only [tr_ms]; omega
    · rw [show j = 1 by omega]; simp only [tr_ms]; omega
    · simp only [tr_ms]; omega
  · have e0 := h 0 (by omega)
    have e1 := h 1 (by omega)
    have e2 := h 2 (by omega)
    refine ⟨?_, fun j hj => ?_, fun q => by omega⟩
    · simp only [tr_ms]; omega
    · rw [show j = 2 by omega]; simp only [tr_ms]; omega
section TRM
variable {mk q n : Nat} {v : Int32} {I : tq_I}
theorem tr_m1 (h : tr_mi mk q v I) (hmk : mk ≤ 15) (hq : q ≤ 4) (h0 : ¬ v < 0) : I 124 (tq_N v) + nI 1 = nI (tq_N (I 124 (tq_N v)) + 1) := by
  obtain ⟨e, h1, h2, h3, h4⟩ := tr_mi0 h hq h0
  conv => lhs; rw [(h4 _ (Nat.le_refl _)).1]
  rw [nI_add]
theorem tr_mp' (h : tr_mi mk q v I) (hmk : mk ≤ 15) (hq : q ≤ 4) (h0 : ¬ v < 0) : (fun k => tq_N (tq_u I 124 (tq_N v) (I 124 (tq_N v) + nI 1) 124 k)) (tq_N v) = tq_N (I 124 (tq_N v)) + 1 := by
  obtain ⟨e, h1, h2, h3, h4⟩ := tr_mi0 h hq h0
  have h5 := (h4 _ (Nat.le_refl _)).2
  show tq_N (tq_u I 124 (tq_N v) (I 124 (tq_N v) + nI 1) 124 (tq_N v)) = _
  rw [tq_u_same, tr_m1 h hmk hq h0, tq_N_nI (by omega)]
theorem tr_all (h : tr_mi mk q v I) (hmk : mk ≤ 15) (hq : q ≤ 4) (h0 : ¬ v < 0) : tr_ms (fun k => tq_N (tq_u I 124 (tq_N v) (I 124 (tq_N v) + nI 1) 124 k)) (tq_N v) < tr_ms (fun k => tq_N (I 124 k)) (tq_N v) ∧ (∀ j, tq_N v = j + 1 → tr_ms (fun k => tq_N (tq_u I 124 (tq_N v) (I 124 (tq_N v) + nI 1) 124 k)) j < tr_ms (fun k => tq_N (I 124 k)) (tq_N v)) := by
  obtain ⟨e, h1, h2, h3, h4⟩ := tr_mi0 h hq h0
  have h5 := (h4 _ (Nat.le_refl _)).2
  have := tr_mstep (p := fun k => tq_N (I 124 k)) (p' := fun k => tq_N (tq_u I 124 (tq_N v) (I 124 (tq_N v) + nI 1) 124 k)) h1 (fun k hk => by show tq_N (tq_u I 124 (tq_N v) (I 124 (tq_N v) + nI 1) 124 k) = _; rw [tq_u_slot (by omega)]) (by omega) (tr_mp' h hmk hq h0)
  exact ⟨this.1, this.2.1⟩
theorem tr_dec {v : Int32} (h0 : ¬ v < 0) (h4 : tq_N v < 4) : (tq_N v = 0 ∧ (v + (-1)) < 0 ∧ (v + (-1)).toInt = -1) ∨ (∃ j, tq_N v = j + 1 ∧ v + (-1) = nI j ∧ (v + (-1)).toInt = (j : Int) ∧ ¬ (v + (-1)) < 0) := by
  have h1 : 0 ≤ v.toInt := by
    rw [Int32.lt_iff_toInt_lt, Int32.toInt_zero] at h0
    omega
  have e := tq_nIN h1
  generalize tq_N v = m at e h4
  subst e
  rcases (show m = 0 ∨ m = 1 ∨ m = 2 ∨ m = 3 by omega) with rfl | rfl | rfl | rfl
  · left; decide
  · right; exact ⟨0, rfl, by decide, by decide, by decide⟩
  · right; exact ⟨1, rfl, by decide, by decide, by decide⟩
  · right; exact ⟨2, rfl, by decide, by decide, by decide⟩
/-- the top is used up -/
theorem tr_mpop (h : tr_mi mk q v I) (hmk : mk ≤ 15) (hq : q ≤ 4) (h0 : ¬ v < 0) (hr : tr_mu v I ≤ n + 1) : tr_mu (v + (-1)) (tq_u I 124 (tq_N v) (I 124 (tq_N v) + nI 1)) ≤ n := by
  obtain ⟨e, h1, h2, h3, h4⟩ := tr_mi0 h hq h0
  have ha := (tr_all h hmk hq h0).2
  unfold tr_mu at hr ⊢
  rw [if_neg h0] at hr
  rcases tr_dec h0 h1 with ⟨_, hl, _⟩ | ⟨j, hj, ej, et, hl⟩
  · rw [if_pos hl]; omega
  · rw [if_neg hl, ej, tq_N_nI (by omega)]
    have := ha j hj
    omega
theorem tr_mpopi (h : tr_mi mk q v I) (hmk : mk ≤ 15) (hq : q ≤ 4) (h0 : ¬ v < 0) : tr_mi mk q (v + (-1)) (tq_u I 124 (tq_N v) (I 124 (tq_N v) + nI 1)) := by
  obtain ⟨e, h1, h2, h3, h4⟩ := tr_mi0 h hq h0
  rcases tr_dec h0 h1 with ⟨_, hl, et⟩ | ⟨j, hj, ej, et, hl⟩
  · exact ⟨by omega, by omega, fun k hk => by omega⟩
  · refine ⟨by omega, by omega, fun k hk => ?_⟩
    rw [tq_u_slot (by omega)]
    exact h.2.2 k (by omega)
theorem tr_mle (h : tr_mi mk q v I) (hmk : mk ≤ 15) (hq : q ≤ 4) (h0 : ¬ v < 0) (hp : tq_u I 124 (tq_N v) (I 124 (tq_N v) + nI 1) 124 (tq_N v) ≤ nI mk) : tq_N (I 124 (tq_N v)) + 1 ≤ mk := by
  obtain ⟨e, h1, h2, h3, h4⟩ := tr_mi0 h hq h0
  have h5 := (h4 _ (Nat.le_refl _)).2
  rw [tq_u_same, tr_m1 h hmk hq h0, nI_leI (by omega) (by omega)] at hp
  exact hp
theorem tr_msame (h : tr_mi mk q v I) (hmk : mk ≤ 15) (hq : q ≤ 4) (h0 : ¬ v < 0) (hr : tr_mu v I ≤ n + 1) : tr_mu v (tq_u I 124 (tq_N v) (I 124 (tq_N v) + nI 1)) ≤ n := by
  have ha := (tr_all h hmk hq h0).1
  unfold tr_mu at hr ⊢
  rw [if_neg h0] at hr ⊢
  omega
theorem tr_msamei (h : tr_mi mk q v I) (hmk : mk ≤ 15) (hq : q ≤ 4) (h0 : ¬ v < 0) (hp : tq_u I 124 (tq_N v) (I 124 (tq_N v) + nI 1) 124 (tq_N v) ≤ nI mk) : tr_mi mk q v (tq_u I 124 (tq_N v) (I 124 (tq_N v) + nI 1)) := by
  obtain ⟨e, h1, h2, h3, h4⟩ := tr_mi0 h hq h0
  have h5 := tr_mle h hmk hq h0 hp
  refine ⟨h.1, h.2.1, fun k hk => ?_⟩
  by_cases hkm : k = tq_N v
  · rw [hkm, tq_u_same, tr_m1 h hmk hq h0, nI_toInt (by omega)]
    omega
  · rw [tq_u_slot hkm]
    exact h.2.2 k hk
theorem tr_inc {v : Int32} (h0 : ¬ v < 0) (h4 : tq_N v < 4) : v + nI 1 = nI (tq_N v + 1) ∧ ¬ (v + nI 1) < 0 ∧ (v + nI 1).toInt = ((tq_N v + 1 : Nat) : Int) ∧ tq_N (v + nI 1) = tq_N v + 1 := by
  have h1 : 0 ≤ v.toInt := by
    rw [Int32.lt_iff_toInt_lt, Int32.toInt_zero] at h0
    omega
  have e := tq_nIN h1
  generalize tq_N v = m at e h4
  subst e
  rw [nI_add]
  refine ⟨rfl, ?_, nI_toInt (by omega), tq_N_nI (by omega)⟩
  rw [Int32.lt_iff_toInt_lt, Int32.toInt_zero, nI_toInt (by omega)]
  omega
theorem tr_mpush (h : tr_mi mk q v I) (hmk : mk ≤ 15) (hq : q ≤ 4) (h0 : ¬ v < 0) (hlt : tq_N v + 1 < q) (hr : tr_mu v I ≤ n + 1) : tr_mu (v + nI 1) (tq_u (tq_u I 124 (tq_N v) (I 124 (tq_N v) + nI 1)) 124 (tq_N v + 1) (tq_u I 124 (tq_N v) (I 124 (tq_N v) + nI 1) 124 (tq_N v))) ≤ n := by
  obtain ⟨e, h1, h2, h3, h4⟩ := tr_mi0 h hq h0
  obtain ⟨i1, i2, i3, i4⟩ := tr_inc h0 h1
  have h5 := (h4 _ (Nat.le_refl _)).2
  have hst := tr_mstep (p := fun k => tq_N (I 124 k)) (p' := fun k => tq_N (tq_u (tq_u I 124 (tq_N v) (I 124 (tq_N v) + nI 1)) 124 (tq_N v + 1) (tq_u I 124 (tq_N v) (I 124 (tq_N v) + nI 1) 124 (tq_N v)) 124 k)) h1 (fun k hk => by show tq_N (tq_u (tq_u I 124 (tq_N v) (I 124 (tq_N v) + nI 1)) 124 (tq_N v + 1) _ 124 k) = _; rw [tq_u_slot (by omega), tq_u_slot (by omega)]) (by omega) (by show tq_N (tq_u (tq_u I 124 (tq_N v) (I 124 (tq_N v) + nI 1)) 124 (tq_N v + 1) _ 124 (tq_N v)) = _; rw [tq_u_slot (by omega)]; exact tr_mp' h hmk hq h0)
  unfold tr_mu at hr ⊢
  rw [if_neg h0] at hr
  rw [if_neg i2, i4]
  have := hst.2.2 (by omega)
  omega
theorem tr_mpushi (h : tr_mi mk q v I) (hmk : mk ≤ 15) (hq : q ≤ 4) (h0 : ¬ v < 0) (hp : tq_u I 124 (tq_N v) (I 124 (tq_N v) + nI 1) 124 (tq_N v) ≤ nI mk) (hlt : tq_N v + 1 < q) : tr_mi mk q (v + nI 1) (tq_u (tq_u I 124 (tq_N v) (I 124 (tq_N v) + nI 1)) 124 (tq_N v + 1) (tq_u I 124 (tq_N v) (I 124 (tq_N v) + nI 1) 124 (tq_N v))) := by
  obtain ⟨e, h1, h2, h3, h4⟩ := tr_mi0 h hq h0
  obtain ⟨i1, i2, i3, i4⟩ := tr_inc h0 h1
  have h5 := tr_mle h hmk hq h0 hp
  refine ⟨by omega, by omega, fun k hk => ?_⟩
  by_cases hk1 : k = tq_N v + 1
  · rw [hk1, tq_u_same, tq_u_same, tr_m1 h hmk hq h0, nI_toInt (by omega)]
    omega
  · rw [tq_u_slot hk1]
    by_cases hkm : k = tq_N v
    · rw [hkm, tq_u_same, tr_m1 h hmk hq h0, nI_toInt (by omega)]
      omega
    · rw [tq_u_slot hkm]
      exact h.2.2 k (by omega)
theorem tr_mlt {v : Int32} (h0 : ¬ v < 0) (h4 : tq_N v < 4) (hq : q ≤ 4) (h : ¬ nI q ≤ v + nI 1) : tq_N v + 1 < q := by
  obtain ⟨i1, i2, i3, i4⟩ := tr_inc h0 h4
  rw [i1, nI_leI (by omega) (by omega)] at h
  omega
end TRM
def f_mu1 (I : tq_I) (t mk q : Nat) (v : Int32) (i : Nat) (a : Int32) : Int32 := (a ||| (I 124 i))
set_option maxRecDepth 20000 in
theorem lp_mu1 {g : tq_G} {x0 : tq_X} (C : tq_C g mX12_makesUp x0) (hR : tq_ht x0 2 0 0) (I : tq_I) (J : Int64) (t mk q : Nat) (v : Int32) (hv : v.toInt = (tq_N v : Int)) (hv4 : tq_N v < 4) : ∀ (n i : Nat) (a : Int32), i + n = tq_N v + 1 → EV g mX12_makesUp x0 0 0 104 [some (.ref 117), some (.int (nI t)), some (.int (nI mk)), some (.int (nI q)), some (.int v), some (.int (tq_it (f_mu1 I t mk q v) n i a)), some (.int (nI (i + n)))] [] (tq_SC ++ tq_SR) tq_RR I J → EV g mX12_makesUp x0 0 0 79 [some (.ref 117), some (.int (nI t)), some (.int (nI mk)), some (.int (nI q)), some (.int v), some (.int a), some (.int (nI i))] [] (tq_SC ++ tq_SR) tq_RR I J := by
  intro n
  induction n with
  | zero =>
    intro i a hi kk
    rw [Nat.add_zero] at kk
    refine EV_blk (own := 12) C rfl [(.iload 6, 0, 0, 0, 0), (.iload 4, 0, 0, 0, 0)] (pc' := 83) (by decide +kernel) (lv' := [some (.ref 117), some (.int (nI t)), some (.int (nI mk)), some (.int (nI q)), some (.int v), some (.int a), some (.int (nI i))]) (st' := [.int v, .int (nI i)]) (I' := I) (J' := J) rfl ?_
    refine EV_icmp_gt (off := 21) (tgt := 104) C (by decide +kernel) (by decide) (fun h1 => ?_) (fun h1 => ?_)
    · skip
      exact kk
    · skip
      exact absurd h1 (by simp (disch := omega) only [Int32.lt_iff_toInt_lt, Int32.le_iff_toInt_le, Int32.toInt_zero, nI_toInt, tq_m1]; omega)
  | succ n ih =>
    intro i a hi kk
    rw [show i + (n + 1) = (i + 1) + n by omega] at kk
    refine EV_blk (own := 12) C rfl [(.iload 6, 0, 0, 0, 0), (.iload 4, 0, 0, 0, 0)] (pc' := 83) (by decide +kernel) (lv' := [some (.ref 117), some (.int (nI t)), some (.int (nI mk)), some (.int (nI q)), some (.int v), some (.int a), some (.int (nI i))]) (st' := [.int v, .int (nI i)]) (I' := I) (J' := J) rfl ?_
    refine EV_icmp_gt (off := 21) (tgt := 104) C (by decide +kernel) (by decide) (fun h1 => ?_) (fun h1 => ?_)
    · skip
      exact absurd h1 (by simp (disch := omega) only [Int32.lt_iff_toInt_lt, Int32.le_iff_toInt_le, Int32.toInt_zero, nI_toInt, tq_m1]; omega)
    · skip
      refine EV_blk (own := 12) C rfl [(.iload 5, 0, 0, 0, 0), (.aload_n 0, 0, 0, 0, 0), (.getfield 29, 12, 9, 908, 0), (.iload 6, 0, 0, 0, 0)] (pc' := 94) (by decide +kernel) (lv' := [some (.ref 117), some (.int (nI t)), some (.int (nI mk)), some (.int (nI q)), some (.int v), some (.int a), some (.int (nI i))]) (st' := [.int (nI i), .ref 124, .int a]) (I' := I) (J' := J) rfl ?_
      refine EV_iald (j := i) C (by decide +kernel) rfl (nI_toInt (by omega)) (by omega) ?_
      refine EV_blk (own := 12) C rfl [(.ior, 0, 0, 0, 0), (.istore 5, 0, 0, 0, 0), (.iinc 6 1, 0, 0, 0, (nI 1)), (.goto (-22), 0, 0, 0, 0)] (pc' := 79) (by decide +kernel) (lv' := [some (.ref 117), some (.int (nI t)), some (.int (nI mk)), some (.int (nI q)), some (.int v), some (.int (a ||| (I 124 i))), some (.int ((nI i) + (nI 1)))]) (st' := []) (I' := I) (J' := J) rfl ?_
      rw [show ((nI i) + (nI 1)) = (nI (i + 1)) from by simp (disch := omega) only [nI_add, tq_mul] <;> exact congrArg nI (by omega)]
      rw [tq_its, show (f_mu1 I t mk q v) i a = (a ||| (I 124 i)) from by simp only [f_mu1, if_neg h1]] at kk
      exact ih (i + 1) (a ||| (I 124 i)) (by omega) kk
def f_mu2 (t mk q : Nat) (a : Int32 × tq_I) : (Int32 × tq_I) ⊕ (Int32 × tq_I) ⊕ Unit := (if a.1 < 0 then (.inr (.inr ())) else (if ((tq_u a.2 124 (tq_N a.1) ((a.2 124 (tq_N a.1)) + (nI 1))) 124 (tq_N a.1)) ≤ (nI mk) then (if (((tq_u a.2 124 (tq_N a.1) ((a.2 124 (tq_N a.1)) + (nI 1))) 124 (tq_N a.1)) &&& ((nI mk) ^^^ (-1))) = 0 then (if (r_X12_wayOf (tq_u a.2 124 (tq_N a.1) ((a.2 124 (tq_N a.1)) + (nI 1))) t ((tq_u a.2 124 (tq_N a.1) ((a.2 124 (tq_N a.1)) + (nI 1))) 124 (tq_N a.1))) = (-1) then (.inl (a.1, (tq_u a.2 124 (tq_N a.1) ((a.2 124 (tq_N a.1)) + (nI 1))))) else (if (a.1 + (nI 1)) = (nI q) then (if (tq_it (f_mu1 (tq_u a.2 124 (tq_N a.1) ((a.2 124 (tq_N a.1)) + (nI 1))) t mk q a.1) (tq_N a.1 + 1) 0 (nI 0)) = (nI mk) then (.inr (.inl ((nI 1), (tq_u a.2 124 (tq_N a.1) ((a.2 124 (tq_N a.1)) + (nI 1)))))) else (if (nI q) ≤ (a.1 + (nI 1)) then (.inl (a.1, (tq_u a.2 124 (tq_N a.1) ((a.2 124 (tq_N a.1)) + (nI 1))))) else (.inl ((a.1 + (nI 1)), (tq_u (tq_u a.2 124 (tq_N a.1) ((a.2 124 (tq_N a.1)) + (nI 1))) 124 (tq_N a.1 + 1) ((tq_u a.2 124 (tq_N a.1) ((a.2 124 (tq_N a.1)) + (nI 1))) 124 (tq_N a.1))))))) else (if (nI q) ≤ (a.1 + (nI 1)) then (.inl (a.1, (tq_u a.2 124 (tq_N a.1) ((a.2 124 (tq_N a.1)) + (nI 1))))) else (.inl ((a.1 + (nI 1)), (tq_u (tq_u a.2 124 (tq_N a.1) ((a.2 124 (tq_N a.1)) + (nI 1))) 124 (tq_N a.1 + 1) ((tq_u a.2 124 (tq_N a.1) ((a.2 124 (tq_N a.1)) + (nI 1))) 124 (tq_N a.1)))))))) else (.inl (a.1, (tq_u a.2 124 (tq_N a.1) ((a.2 124 (tq_N a.1)) + (nI 1)))))) else (.inl ((a.1 + (-1)), (tq_u a.2 124 (tq_N a.1) ((a.2 124 (tq_N a.1)) + (nI 1)))))))
def d_mu2 (t mk q : Nat) (a : Int32 × tq_I) : Int32 × tq_I := ((nI 0), a.2)
set_option maxRecDepth 20000 in
theorem lp_mu2 {g : tq_G} {x0 : tq_X} {res : Int32} {I1 : tq_I} (C : tq_C g mX12_makesUp x0) (hR : tq_ht x0 2 0 0) (J : Int64) (hZ : tq_end g x0 (tq_ret (tq_SC ++ tq_SR) tq_RR (some (.int res)) I1 J) 0 0) (t mk q : Nat) (ht : t ≤ 5) (hmk : mk ≤ 15) (hq : q ≤ 4) : ∀ (n : Nat) (a : Int32 × tq_I), tr_mu a.1 a.2 ≤ n → tr_mi mk q a.1 a.2 → (res, I1) = tq_wr (f_mu2 t mk q) (d_mu2 t mk q) n a → EV g mX12_makesUp x0 0 0 10 [some (.ref 117), some (.int (nI t)), some (.int (nI mk)), some (.int (nI q)), some (.int a.1), none, none] [] (tq_SC ++ tq_SR) tq_RR a.2 J := by
  intro n
  induction n with
  | zero =>
    intro a hi hI hr
    refine EV_blk (own := 12) C rfl [(.iload 4, 0, 0, 0, 0)] (pc' := 12) (by decide +kernel) (lv' := [some (.ref 117), some (.int (nI t)), some (.int (nI mk)), some (.int (nI q)), some (.int a.1), none, none]) (st' := [.int a.1]) (I' := a.2) (J' := J) rfl ?_
    refine EV_if_lt (off := 138) (tgt := 150) C (by decide +kernel) (by decide) (fun h0 => ?_) (fun h0 => ?_)
    · skip
      refine EV_blk (own := 12) C rfl [(.iconst 0, 0, 0, 0, (nI 0))] (pc' := 151) (by decide +kernel) (lv' := [some (.ref 117), some (.int (nI t)), some (.int (nI mk)), some (.int (nI q)), some (.int a.1), none, none]) (st' := [.int (nI 0)]) (I' := a.2) (J' := J) rfl ?_
      exact EV_zret C hZ rfl (by decide) (by decide +kernel) (Nat.le_refl _) (Nat.le_refl _) ⟨tq_some (congrArg Prod.fst (hr.trans (show (d_mu2 t mk q) a = ((nI 0), a.2) from by simp only [d_mu2]))).symm, rfl, rfl, (congrArg Prod.snd (hr.trans (show (d_mu2 t mk q) a = ((nI 0), a.2) from by simp only [d_mu2]))).symm, rfl⟩
    · skip
      exact absurd hi (by have := tr_muL (I := a.2) h0; omega)
  | succ n ih =>
    intro a hi hI hr
    refine EV_blk (own := 12) C rfl [(.iload 4, 0, 0, 0, 0)] (pc' := 12) (by decide +kernel) (lv' := [some (.ref 117), some (.int (nI t)), some (.int (nI mk)), some (.int (nI q)), some (.int a.1), none, none]) (st' := [.int a.1]) (I' := a.2) (J' := J) rfl ?_
    refine EV_if_lt (off := 138) (tgt := 150) C (by decide +kernel) (by decide) (fun h0 => ?_) (fun h0 => ?_)
    · skip
      refine EV_blk (own := 12) C rfl [(.iconst 0, 0, 0, 0, (nI 0))] (pc' := 151) (by decide +kernel) (lv' := [some (.ref 117), some (.int (nI t)), some (.int (nI mk)), some (.int (nI q)), some (.int a.1), none, none]) (st' := [.int (nI 0)]) (I' := a.2) (J' := J) rfl ?_
      exact EV_zret C hZ rfl (by decide) (by decide +kernel) (Nat.le_refl _) (Nat.le_refl _) ⟨tq_some (congrArg Prod.fst (hr.trans ((tq_wr_x (show (f_mu2 t mk q) a = .inr (.inr ()) from by simp only [f_mu2, if_pos h0])).trans (show (d_mu2 t mk q) a = ((nI 0), a.2) from by simp only [d_mu2])))).symm, rfl, rfl, (congrArg Prod.snd (hr.trans ((tq_wr_x (show (f_mu2 t mk q) a = .inr (.inr ()) from by simp only [f_mu2, if_pos h0])).trans (show (d_mu2 t mk q) a = ((nI 0), a.2) from by simp only [d_mu2])))).symm, rfl⟩
    · skip
      have hv := tr_mi0 hI hq h0
      refine EV_blk (own := 12) C rfl [(.aload_n 0, 0, 0, 0, 0), (.getfield 29, 12, 9, 908, 0), (.iload 4, 0, 0, 0, 0), (.dup2, 0, 0, 0, 0)] (pc' := 22) (by decide +kernel) (lv' := [some (.ref 117), some (.int (nI t)), some (.int (nI mk)), some (.int (nI q)), some (.int a.1), none, none]) (st' := [.int a.1, .ref 124, .int a.1, .ref 124]) (I' := a.2) (J' := J) rfl ?_
      refine EV_iald (j := (tq_N a.1)) C (by decide +kernel) rfl hv.2.2.1 (by omega) ?_
      refine EV_blk (own := 12) C rfl [(.iconst 1, 0, 0, 0, (nI 1)), (.iadd, 0, 0, 0, 0)] (pc' := 25) (by decide +kernel) (lv' := [some (.ref 117), some (.int (nI t)), some (.int (nI mk)), some (.int (nI q)), some (.int a.1), none, none]) (st' := [.int ((a.2 124 (tq_N a.1)) + (nI 1)), .int a.1, .ref 124]) (I' := a.2) (J' := J) rfl ?_
      refine EV_iast (j := (tq_N a.1)) C (by decide +kernel) rfl hv.2.2.1 (by omega) ?_
      refine EV_blk (own := 12) C rfl [(.aload_n 0, 0, 0, 0, 0), (.getfield 29, 12, 9, 908, 0), (.iload 4, 0, 0, 0, 0)] (pc' := 32) (by decide +kernel) (lv' := [some (.ref 117), some (.int (nI t)), some (.int (nI mk)), some (.int (nI q)), some (.int a.1), none, none]) (st' := [.int a.1, .ref 124]) (I' := (tq_u a.2 124 (tq_N a.1) ((a.2 124 (tq_N a.1)) + (nI 1)))) (J' := J) rfl ?_
      refine EV_iald (j := (tq_N a.1)) C (by decide +kernel) rfl hv.2.2.1 (by omega) ?_
      refine EV_blk (own := 12) C rfl [(.iload_n 2, 0, 0, 0, 0)] (pc' := 34) (by decide +kernel) (lv' := [some (.ref 117), some (.int (nI t)), some (.int (nI mk)), some (.int (nI q)), some (.int a.1), none, none]) (st' := [.int (nI mk), .int ((tq_u a.2 124 (tq_N a.1) ((a.2 124 (tq_N a.1)) + (nI 1))) 124 (tq_N a.1))]) (I' := (tq_u a.2 124 (tq_N a.1) ((a.2 124 (tq_N a.1)) + (nI 1)))) (J' := J) rfl ?_
      refine EV_icmp_le (off := 9) (tgt := 43) C (by decide +kernel) (by decide) (fun hp => ?_) (fun hp => ?_)
      · skip
        refine EV_blk (own := 12) C rfl [(.aload_n 0, 0, 0, 0, 0), (.getfield 29, 12, 9, 908, 0), (.iload 4, 0, 0, 0, 0)] (pc' := 49) (by decide +kernel) (lv' := [some (.ref 117), some (.int (nI t)), some (.int (nI mk)), some (.int (nI q)), some (.int a.1), none, none]) (st' := [.int a.1, .ref 124]) (I' := (tq_u a.2 124 (tq_N a.1) ((a.2 124 (tq_N a.1)) + (nI 1)))) (J' := J) rfl ?_
        refine EV_iald (j := (tq_N a.1)) C (by decide +kernel) rfl hv.2.2.1 (by omega) ?_
        refine EV_blk (own := 12) C rfl [(.iload_n 2, 0, 0, 0, 0), (.iconst (-1), 0, 0, 0, (-1)), (.ixor, 0, 0, 0, 0), (.iand, 0, 0, 0, 0)] (pc' := 54) (by decide +kernel) (lv' := [some (.ref 117), some (.int (nI t)), some (.int (nI mk)), some (.int (nI q)), some (.int a.1), none, none]) (st' := [.int (((tq_u a.2 124 (tq_N a.1) ((a.2 124 (tq_N a.1)) + (nI 1))) 124 (tq_N a.1)) &&& ((nI mk) ^^^ (-1)))]) (I' := (tq_u a.2 124 (tq_N a.1) ((a.2 124 (tq_N a.1)) + (nI 1)))) (J' := J) rfl ?_
        refine EV_if_ne (off := -44) (tgt := 10) C (by decide +kernel) (by decide) (fun h1 => ?_) (fun h1 => ?_)
        · skip
          have ihx := ih (a.1, (tq_u a.2 124 (tq_N a.1) ((a.2 124 (tq_N a.1)) + (nI 1))))
          dsimp only at ihx
          exact ihx (tr_msame hI hmk hq h0 hi) (tr_msamei hI hmk hq h0 hp) (hr.trans (tq_wr_c (show (f_mu2 t mk q) a = .inl (a.1, (tq_u a.2 124 (tq_N a.1) ((a.2 124 (tq_N a.1)) + (nI 1)))) from by simp only [f_mu2, if_neg h0, if_pos hp, if_neg h1])))
        · skip
          refine EV_blk (own := 12) C rfl [(.aload_n 0, 0, 0, 0, 0), (.iload_n 1, 0, 0, 0, 0), (.aload_n 0, 0, 0, 0, 0), (.getfield 29, 12, 9, 908, 0), (.iload 4, 0, 0, 0, 0)] (pc' := 65) (by decide +kernel) (lv' := [some (.ref 117), some (.int (nI t)), some (.int (nI mk)), some (.int (nI q)), some (.int a.1), none, none]) (st' := [.int a.1, .ref 124, .int (nI t), .ref 117]) (I' := (tq_u a.2 124 (tq_N a.1) ((a.2 124 (tq_N a.1)) + (nI 1)))) (J' := J) rfl ?_
          refine EV_iald (j := (tq_N a.1)) C (by decide +kernel) rfl hv.2.2.1 (by omega) ?_
          refine EV_cV (own := 12) (idx := 130) (μ' := mX12_wayOf) (b := 117) (cb := 12) (av := [.int (nI t), .int ((tq_u a.2 124 (tq_N a.1) ((a.2 124 (tq_N a.1)) + (nI 1))) 124 (tq_N a.1))]) (rest := []) C hR rfl (Or.inl ⟨1118, by decide⟩) kX12_wayOf sX12_wayOf (c_X12_wayOf g (tq_u a.2 124 (tq_N a.1) ((a.2 124 (tq_N a.1)) + (nI 1))) J t ((tq_u a.2 124 (tq_N a.1) ((a.2 124 (tq_N a.1)) + (nI 1))) 124 (tq_N a.1)) (by omega)) rfl rfl (by decide +kernel) rfl (by decide) (Nat.le_of_ble_eq_true rfl) rfl ⟨Nat.zero_le _, Nat.zero_le _⟩ ?_
          refine EV_blk (own := 12) C rfl [(.iconst (-1), 0, 0, 0, (-1))] (pc' := 70) (by decide +kernel) (lv' := [some (.ref 117), some (.int (nI t)), some (.int (nI mk)), some (.int (nI q)), some (.int a.1), none, none]) (st' := [.int (-1), .int (r_X12_wayOf (tq_u a.2 124 (tq_N a.1) ((a.2 124 (tq_N a.1)) + (nI 1))) t ((tq_u a.2 124 (tq_N a.1) ((a.2 124 (tq_N a.1)) + (nI 1))) 124 (tq_N a.1)))]) (I' := (tq_u a.2 124 (tq_N a.1) ((a.2 124 (tq_N a.1)) + (nI 1)))) (J' := J) rfl ?_
          refine EV_icmp_eq (off := -60) (tgt := 10) C (by decide +kernel) (by decide) (fun h2 => ?_) (fun h2 => ?_)
          · skip
            have ihx := ih (a.1, (tq_u a.2 124 (tq_N a.1) ((a.2 124 (tq_N a.1)) + (nI 1))))
            dsimp only at ihx
            exact ihx (tr_msame hI hmk hq h0 hi) (tr_msamei hI hmk hq h0 hp) (hr.trans (tq_wr_c (show (f_mu2 t mk q) a = .inl (a.1, (tq_u a.2 124 (tq_N a.1) ((a.2 124 (tq_N a.1)) + (nI 1)))) from by simp only [f_mu2, if_neg h0, if_pos hp, if_pos h1, if_pos h2])))
          · skip
            refine EV_blk (own := 12) C rfl [(.iconst 0, 0, 0, 0, (nI 0)), (.istore 5, 0, 0, 0, 0), (.iconst 0, 0, 0, 0, (nI 0)), (.istore 6, 0, 0, 0, 0)] (pc' := 79) (by decide +kernel) (lv' := [some (.ref 117), some (.int (nI t)), some (.int (nI mk)), some (.int (nI q)), some (.int a.1), some (.int (nI 0)), some (.int (nI 0))]) (st' := []) (I' := (tq_u a.2 124 (tq_N a.1) ((a.2 124 (tq_N a.1)) + (nI 1)))) (J' := J) rfl ?_
            refine lp_mu1 C hR (tq_u a.2 124 (tq_N a.1) ((a.2 124 (tq_N a.1)) + (nI 1))) J t mk q a.1 hv.2.2.1 hv.2.1 (tq_N a.1 + 1) 0 (nI 0) (by omega) ?_
            refine EV_blk (own := 12) C rfl [(.iload 4, 0, 0, 0, 0), (.iconst 1, 0, 0, 0, (nI 1)), (.iadd, 0, 0, 0, 0), (.iload_n 3, 0, 0, 0, 0)] (pc' := 109) (by decide +kernel) (lv' := [some (.ref 117), some (.int (nI t)), some (.int (nI mk)), some (.int (nI q)), some (.int a.1), some (.int (tq_it (f_mu1 (tq_u a.2 124 (tq_N a.1) ((a.2 124 (tq_N a.1)) + (nI 1))) t mk q a.1) (tq_N a.1 + 1) 0 (nI 0))), some (.int (nI ((0 + (tq_N a.1 + 1)))))]) (st' := [.int (nI q), .int (a.1 + (nI 1))]) (I' := (tq_u a.2 124 (tq_N a.1) ((a.2 124 (tq_N a.1)) + (nI 1)))) (J' := J) rfl ?_
            refine EV_icmp_ne (off := 11) (tgt := 120) C (by decide +kernel) (by decide) (fun h3 => ?_) (fun h3 => ?_)
            · skip
              refine EV_blk (own := 12) C rfl [(.iload 4, 0, 0, 0, 0), (.iconst 1, 0, 0, 0, (nI 1)), (.iadd, 0, 0, 0, 0), (.iload_n 3, 0, 0, 0, 0)] (pc' := 125) (by decide +kernel) (lv' := [some (.ref 117), some (.int (nI t)), some (.int (nI mk)), some (.int (nI q)), some (.int a.1), some (.int (tq_it (f_mu1 (tq_u a.2 124 (tq_N a.1) ((a.2 124 (tq_N a.1)) + (nI 1))) t mk q a.1) (tq_N a.1 + 1) 0 (nI 0))), some (.int (nI ((0 + (tq_N a.1 + 1)))))]) (st' := [.int (nI q), .int (a.1 + (nI 1))]) (I' := (tq_u a.2 124 (tq_N a.1) ((a.2 124 (tq_N a.1)) + (nI 1)))) (J' := J) rfl ?_
              refine EV_icmp_ge (off := 22) (tgt := 147) C (by decide +kernel) (by decide) (fun h4 => ?_) (fun h4 => ?_)
              · skip
                refine EV_blk (own := 12) C rfl [(.goto (-137), 0, 0, 0, 0)] (pc' := 10) (by decide +kernel) (lv' := [some (.ref 117), some (.int (nI t)), some (.int (nI mk)), some (.int (nI q)), some (.int a.1), some (.int (tq_it (f_mu1 (tq_u a.2 124 (tq_N a.1) ((a.2 124 (tq_N a.1)) + (nI 1))) t mk q a.1) (tq_N a.1 + 1) 0 (nI 0))), some (.int (nI ((0 + (tq_N a.1 + 1)))))]) (st' := []) (I' := (tq_u a.2 124 (tq_N a.1) ((a.2 124 (tq_N a.1)) + (nI 1)))) (J' := J) rfl ?_
                refine EV_fg (lv' := [some (.ref 117), some (.int (nI t)), some (.int (nI mk)), some (.int (nI q)), some (.int a.1), none, none]) ⟨rfl, rfl, rfl, rfl, rfl, trivial⟩ ?_
                have ihx := ih (a.1, (tq_u a.2 124 (tq_N a.1) ((a.2 124 (tq_N a.1)) + (nI 1))))
                dsimp only at ihx
                exact ihx (tr_msame hI hmk hq h0 hi) (tr_msamei hI hmk hq h0 hp) (hr.trans (tq_wr_c (show (f_mu2 t mk q) a = .inl (a.1, (tq_u a.2 124 (tq_N a.1) ((a.2 124 (tq_N a.1)) + (nI 1)))) from by simp only [f_mu2, if_neg h0, if_pos hp, if_pos h1, if_neg h2, if_neg h3, if_pos h4])))
              · skip
                refine EV_blk (own := 12) C rfl [(.aload_n 0, 0, 0, 0, 0), (.getfield 29, 12, 9, 908, 0), (.iload 4, 0, 0, 0, 0), (.iconst 1, 0, 0, 0, (nI 1)), (.iadd, 0, 0, 0, 0), (.aload_n 0, 0, 0, 0, 0), (.getfield 29, 12, 9, 908, 0), (.iload 4, 0, 0, 0, 0)] (pc' := 142) (by decide +kernel) (lv' := [some (.ref 117), some (.int (nI t)), some (.int (nI mk)), some (.int (nI q)), some (.int a.1), some (.int (tq_it (f_mu1 (tq_u a.2 124 (tq_N a.1) ((a.2 124 (tq_N a.1)) + (nI 1))) t mk q a.1) (tq_N a.1 + 1) 0 (nI 0))), some (.int (nI ((0 + (tq_N a.1 + 1)))))]) (st' := [.int a.1, .ref 124, .int (a.1 + (nI 1)), .ref 124]) (I' := (tq_u a.2 124 (tq_N a.1) ((a.2 124 (tq_N a.1)) + (nI 1)))) (J' := J) rfl ?_
                refine EV_iald (j := (tq_N a.1)) C (by decide +kernel) rfl hv.2.2.1 (by omega) ?_
                refine EV_iast (j := (tq_N a.1 + 1)) C (by decide +kernel) rfl ((tr_inc h0 hv.2.1).2.2.1) (by omega) ?_
                refine EV_blk (own := 12) C rfl [(.iinc 4 1, 0, 0, 0, (nI 1)), (.goto (-137), 0, 0, 0, 0)] (pc' := 10) (by decide +kernel) (lv' := [some (.ref 117), some (.int (nI t)), some (.int (nI mk)), some (.int (nI q)), some (.int (a.1 + (nI 1))), some (.int (tq_it (f_mu1 (tq_u a.2 124 (tq_N a.1) ((a.2 124 (tq_N a.1)) + (nI 1))) t mk q a.1) (tq_N a.1 + 1) 0 (nI 0))), some (.int (nI ((0 + (tq_N a.1 + 1)))))]) (st' := []) (I' := (tq_u (tq_u a.2 124 (tq_N a.1) ((a.2 124 (tq_N a.1)) + (nI 1))) 124 (tq_N a.1 + 1) ((tq_u a.2 124 (tq_N a.1) ((a.2 124 (tq_N a.1)) + (nI 1))) 124 (tq_N a.1)))) (J' := J) rfl ?_
                refine EV_fg (lv' := [some (.ref 117), some (.int (nI t)), some (.int (nI mk)), some (.int (nI q)), some (.int (a.1 + (nI 1))), none, none]) ⟨rfl, rfl, rfl, rfl, rfl, trivial⟩ ?_
                have ihx := ih ((a.1 + (nI 1)), (tq_u (tq_u a.2 124 (tq_N a.1) ((a.2 124 (tq_N a.1)) + (nI 1))) 124 (tq_N a.1 + 1) ((tq_u a.2 124 (tq_N a.1) ((a.2 124 (tq_N a.1)) + (nI 1))) 124 (tq_N a.1))))
                dsimp only at ihx
                exact ihx (tr_mpush hI hmk hq h0 (tr_mlt h0 hv.2.1 hq h4) hi) (tr_mpushi hI hmk hq h0 hp (tr_mlt h0 hv.2.1 hq h4)) (hr.trans (tq_wr_c (show (f_mu2 t mk q) a = .inl ((a.1 + (nI 1)), (tq_u (tq_u a.2 124 (tq_N a.1) ((a.2 124 (tq_N a.1)) + (nI 1))) 124 (tq_N a.1 + 1) ((tq_u a.2 124 (tq_N a.1) ((a.2 124 (tq_N a.1)) + (nI 1))) 124 (tq_N a.1)))) from by simp only [f_mu2, if_neg h0, if_pos hp, if_pos h1, if_neg h2, if_neg h3, if_neg h4])))
            · skip
              refine EV_blk (own := 12) C rfl [(.iload 5, 0, 0, 0, 0), (.iload_n 2, 0, 0, 0, 0)] (pc' := 115) (by decide +kernel) (lv' := [some (.ref 117), some (.int (nI t)), some (.int (nI mk)), some (.int (nI q)), some (.int a.1), some (.int (tq_it (f_mu1 (tq_u a.2 124 (tq_N a.1) ((a.2 124 (tq_N a.1)) + (nI 1))) t mk q a.1) (tq_N a.1 + 1) 0 (nI 0))), some (.int (nI ((0 + (tq_N a.1 + 1)))))]) (st' := [.int (nI mk), .int (tq_it (f_mu1 (tq_u a.2 124 (tq_N a.1) ((a.2 124 (tq_N a.1)) + (nI 1))) t mk q a.1) (tq_N a.1 + 1) 0 (nI 0))]) (I' := (tq_u a.2 124 (tq_N a.1) ((a.2 124 (tq_N a.1)) + (nI 1)))) (J' := J) rfl ?_
              refine EV_icmp_ne (off := 5) (tgt := 120) C (by decide +kernel) (by decide) (fun h5 => ?_) (fun h5 => ?_)
              · skip
                refine EV_blk (own := 12) C rfl [(.iload 4, 0, 0, 0, 0), (.iconst 1, 0, 0, 0, (nI 1)), (.iadd, 0, 0, 0, 0), (.iload_n 3, 0, 0, 0, 0)] (pc' := 125) (by decide +kernel) (lv' := [some (.ref 117), some (.int (nI t)), some (.int (nI mk)), some (.int (nI q)), some (.int a.1), some (.int (tq_it (f_mu1 (tq_u a.2 124 (tq_N a.1) ((a.2 124 (tq_N a.1)) + (nI 1))) t mk q a.1) (tq_N a.1 + 1) 0 (nI 0))), some (.int (nI ((0 + (tq_N a.1 + 1)))))]) (st' := [.int (nI q), .int (a.1 + (nI 1))]) (I' := (tq_u a.2 124 (tq_N a.1) ((a.2 124 (tq_N a.1)) + (nI 1)))) (J' := J) rfl ?_
                refine EV_icmp_ge (off := 22) (tgt := 147) C (by decide +kernel) (by decide) (fun h6 => ?_) (fun h6 => ?_)
                · skip
                  refine EV_blk (own := 12) C rfl [(.goto (-137), 0, 0, 0, 0)] (pc' := 10) (by decide +kernel) (lv' := [some (.ref 117), some (.int (nI t)), some (.int (nI mk)), some (.int (nI q)), some (.int a.1), some (.int (tq_it (f_mu1 (tq_u a.2 124 (tq_N a.1) ((a.2 124 (tq_N a.1)) + (nI 1))) t mk q a.1) (tq_N a.1 + 1) 0 (nI 0))), some (.int (nI ((0 + (tq_N a.1 + 1)))))]) (st' := []) (I' := (tq_u a.2 124 (tq_N a.1) ((a.2 124 (tq_N a.1)) + (nI 1)))) (J' := J) rfl ?_
                  refine EV_fg (lv' := [some (.ref 117), some (.int (nI t)), some (.int (nI mk)), some (.int (nI q)), some (.int a.1), none, none]) ⟨rfl, rfl, rfl, rfl, rfl, trivial⟩ ?_
                  have ihx := ih (a.1, (tq_u a.2 124 (tq_N a.1) ((a.2 124 (tq_N a.1)) + (nI 1))))
                  dsimp only at ihx
                  exact ihx (tr_msame hI hmk hq h0 hi) (tr_msamei hI hmk hq h0 hp) (hr.trans (tq_wr_c (show (f_mu2 t mk q) a = .inl (a.1, (tq_u a.2 124 (tq_N a.1) ((a.2 124 (tq_N a.1)) + (nI 1)))) from by simp only [f_mu2, if_neg h0, if_pos hp, if_pos h1, if_neg h2, if_pos h3, if_neg h5, if_pos h6])))
                · skip
                  refine EV_blk (own := 12) C rfl [(.aload_n 0, 0, 0, 0, 0), (.getfield 29, 12, 9, 908, 0), (.iload 4, 0, 0, 0, 0), (.iconst 1, 0, 0, 0, (nI 1)), (.iadd, 0, 0, 0, 0), (.aload_n 0, 0, 0, 0, 0), (.getfield 29, 12, 9, 908, 0), (.iload 4, 0, 0, 0, 0)] (pc' := 142) (by decide +kernel) (lv' := [some (.ref 117), some (.int (nI t)), some (.int (nI mk)), some (.int (nI q)), some (.int a.1), some (.int (tq_it (f_mu1 (tq_u a.2 124 (tq_N a.1) ((a.2 124 (tq_N a.1)) + (nI 1))) t mk q a.1) (tq_N a.1 + 1) 0 (nI 0))), some (.int (nI ((0 + (tq_N a.1 + 1)))))]) (st' := [.int a.1, .ref 124, .int (a.1 + (nI 1)), .ref 124]) (I' := (tq_u a.2 124 (tq_N a.1) ((a.2 124 (tq_N a.1)) + (nI 1)))) (J' := J) rfl ?_
                  refine EV_iald (j := (tq_N a.1)) C (by decide +kernel) rfl hv.2.2.1 (by omega) ?_
                  refine EV_iast (j := (tq_N a.1 + 1)) C (by decide +kernel) rfl ((tr_inc h0 hv.2.1).2.2.1) (by omega) ?_
                  refine EV_blk (own := 12) C rfl [(.iinc 4 1, 0, 0, 0, (nI 1)), (.goto (-137), 0, 0, 0, 0)] (pc' := 10) (by decide +kernel) (lv' := [some (.ref 117), some (.int (nI t)), some (.int (nI mk)), some (.int (nI q)), some (.int (a.1 + (nI 1))), some (.int (tq_it (f_mu1 (tq_u a.2 124 (tq_N a.1) ((a.2 124 (tq_N a.1)) + (nI 1))) t mk q a.1) (tq_N a.1 + 1) 0 (nI 0))), some (.int (nI ((0 + (tq_N a.1 + 1)))))]) (st' := []) (I' := (tq_u (tq_u a.2 124 (tq_N a.1) ((a.2 124 (tq_N a.1)) + (nI 1))) 124 (tq_N a.1 + 1) ((tq_u a.2 124 (tq_N a.1) ((a.2 124 (tq_N a.1)) + (nI 1))) 124 (tq_N a.1)))) (J' := J) rfl ?_
                  refine EV_fg (lv' := [some (.ref 117), some (.int (nI t)), some (.int (nI mk)), some (.int (nI q)), some (.int (a.1 + (nI 1))), none, none]) ⟨rfl, rfl, rfl, rfl, rfl, trivial⟩ ?_
                  have ihx := ih ((a.1 + (nI 1)), (tq_u (tq_u a.2 124 (tq_N a.1) ((a.2 124 (tq_N a.1)) + (nI 1))) 124 (tq_N a.1 + 1) ((tq_u a.2 124 (tq_N a.1) ((a.2 124 (tq_N a.1)) + (nI 1))) 124 (tq_N a.1))))
                  dsimp only at ihx
                  exact ihx (tr_mpush hI hmk hq h0 (tr_mlt h0 hv.2.1 hq h6) hi) (tr_mpushi hI hmk hq h0 hp (tr_mlt h0 hv.2.1 hq h6)) (hr.trans (tq_wr_c (show (f_mu2 t mk q) a = .inl ((a.1 + (nI 1)), (tq_u (tq_u a.2 124 (tq_N a.1) ((a.2 124 (tq_N a.1)) + (nI 1))) 124 (tq_N a.1 + 1) ((tq_u a.2 124 (tq_N a.1) ((a.2 124 (tq_N a.1)) + (nI 1))) 124 (tq_N a.1)))) from by simp only [f_mu2, if_neg h0, if_pos hp, if_pos h1, if_neg h2, if_pos h3, if_neg h5, if_neg h6])))
              · skip
                refine EV_blk (own := 12) C rfl [(.iconst 1, 0, 0, 0, (nI 1))] (pc' := 119) (by decide +kernel) (lv' := [some (.ref 117), some (.int (nI t)), some (.int (nI mk)), some (.int (nI q)), some (.int a.1), some (.int (tq_it (f_mu1 (tq_u a.2 124 (tq_N a.1) ((a.2 124 (tq_N a.1)) + (nI 1))) t mk q a.1) (tq_N a.1 + 1) 0 (nI 0))), some (.int (nI ((0 + (tq_N a.1 + 1)))))]) (st' := [.int (nI 1)]) (I' := (tq_u a.2 124 (tq_N a.1) ((a.2 124 (tq_N a.1)) + (nI 1)))) (J' := J) rfl ?_
                exact EV_zret C hZ rfl (by decide) (by decide +kernel) (Nat.le_refl _) (Nat.le_refl _) ⟨tq_some (congrArg Prod.fst (hr.trans (tq_wr_r (show (f_mu2 t mk q) a = .inr (.inl ((nI 1), (tq_u a.2 124 (tq_N a.1) ((a.2 124 (tq_N a.1)) + (nI 1))))) from by simp only [f_mu2, if_neg h0, if_pos hp, if_pos h1, if_neg h2, if_pos h3, if_pos h5])))).symm, rfl, rfl, (congrArg Prod.snd (hr.trans (tq_wr_r (show (f_mu2 t mk q) a = .inr (.inl ((nI 1), (tq_u a.2 124 (tq_N a.1) ((a.2 124 (tq_N a.1)) + (nI 1))))) from by simp only [f_mu2, if_neg h0, if_pos hp, if_pos h1, if_neg h2, if_pos h3, if_pos h5])))).symm, rfl⟩
      · skip
        refine EV_blk (own := 12) C rfl [(.iinc 4 (-1), 0, 0, 0, (-1)), (.goto (-30), 0, 0, 0, 0)] (pc' := 10) (by decide +kernel) (lv' := [some (.ref 117), some (.int (nI t)), some (.int (nI mk)), some (.int (nI q)), some (.int (a.1 + (-1))), none, none]) (st' := []) (I' := (tq_u a.2 124 (tq_N a.1) ((a.2 124 (tq_N a.1)) + (nI 1)))) (J' := J) rfl ?_
        have ihx := ih ((a.1 + (-1)), (tq_u a.2 124 (tq_N a.1) ((a.2 124 (tq_N a.1)) + (nI 1))))
        dsimp only at ihx
        exact ihx (tr_mpop hI hmk hq h0 hi) (tr_mpopi hI hmk hq h0) (hr.trans (tq_wr_c (show (f_mu2 t mk q) a = .inl ((a.1 + (-1)), (tq_u a.2 124 (tq_N a.1) ((a.2 124 (tq_N a.1)) + (nI 1)))) from by simp only [f_mu2, if_neg h0, if_neg hp])))
theorem tr_mu0 (I : tq_I) : tr_mu (nI 0) (tq_u I 124 0 (nI 0)) ≤ 90000 := by
  unfold tr_mu
  rw [if_neg (by decide)]
  show tr_ms _ 0 ≤ 90000
  simp only [tr_ms]
  omega
theorem tr_mi00 (I : tq_I) {mk q : Nat} (hq : 1 ≤ q) : tr_mi mk q (nI 0) (tq_u I 124 0 (nI 0)) := by
  have e : (nI 0).toInt = 0 := by decide
  refine ⟨by omega, by omega, fun k hk => ?_⟩
  rw [show k = 0 by omega, tq_u_same]
  omega
def r_X12_makesUp (I : tq_I) (t mk q : Nat) : Int32 := (tq_wr (f_mu2 t mk q) (d_mu2 t mk q) 90000 ((nI 0), (tq_u I 124 0 (nI 0)))).1
def I_X12_makesUp (I : tq_I) (t mk q : Nat) : tq_I := (tq_wr (f_mu2 t mk q) (d_mu2 t mk q) 90000 ((nI 0), (tq_u I 124 0 (nI 0)))).2
set_option maxRecDepth 20000 in
theorem c_X12_makesUp (g : tq_G) (I : tq_I) (J : Int64) (t mk q : Nat) (ht : t ≤ 5) (hmk : mk ≤ 15) (hq1 : 1 ≤ q) (hq : q ≤ 4) : CT g mX12_makesUp 2 0 0 [.ref 117, .int (nI t), .int (nI mk), .int (nI q)] (tq_SC ++ tq_SR) tq_RR I J (tq_ret (tq_SC ++ tq_SR) tq_RR (some (.int (r_X12_makesUp I t mk q))) (I_X12_makesUp I t mk q) J) := by
  refine CT.ret kX12_makesUp (Nat.le_of_ble_eq_true rfl) (fun x0 C hR hZ => ?_)
  refine EV_en (lv' := [some (.ref 117), some (.int (nI t)), some (.int (nI mk)), some (.int (nI q)), none, none, none]) 3 rfl ?_
  refine EV_blk (own := 12) C rfl [(.iconst 0, 0, 0, 0, (nI 0)), (.istore 4, 0, 0, 0, 0), (.aload_n 0, 0, 0, 0, 0), (.getfield 29, 12, 9, 908, 0), (.iconst 0, 0, 0, 0, (nI 0)), (.iconst 0, 0, 0, 0, (nI 0))] (pc' := 9) (by decide +kernel) (lv' := [some (.ref 117), some (.int (nI t)), some (.int (nI mk)), some (.int (nI q)), some (.int (nI 0)), none, none]) (st' := [.int (nI 0), .int (nI 0), .ref 124]) (I' := I) (J' := J) rfl ?_
  refine EV_iast (j := 0) C (by decide +kernel) rfl (nI_toInt (by omega)) (by omega) ?_
  have hlp := lp_mu2 (g := g) C hR J hZ t mk q ht hmk hq 90000 ((nI 0), (tq_u I 124 0 (nI 0)))
  dsimp only at hlp
  exact hlp (tr_mu0 I) (tr_mi00 I hq1) (show (r_X12_makesUp I t mk q, I_X12_makesUp I t mk q) = (tq_wr (f_mu2 t mk q) (d_mu2 t mk q) 90000 ((nI 0), (tq_u I 124 0 (nI 0)))) from by simp only [r_X12_makesUp, I_X12_makesUp])
