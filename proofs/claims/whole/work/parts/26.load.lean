/-! load -/
theorem tq_wrI {α ρ : Type} {f : α → α ⊕ ρ ⊕ Unit} {d : α → ρ} (A : α → Prop) (B : ρ → Prop) (hc : ∀ a b, A a → f a = .inl b → A b) (hr : ∀ a r, A a → f a = .inr (.inl r) → B r) (hd : ∀ a, A a → B (d a)) : ∀ (n : Nat) (a : α), A a → B (tq_wr f d n a)
  | 0, a, h => hd a h
  | n + 1, a, h => by
    match hf : f a with
    | .inl b => rw [tq_wr_c hf]; exact tq_wrI A B hc hr hd n b (hc a b h hf)
    | .inr (.inl r) => rw [tq_wr_r hf]; exact hr a r h hf
    | .inr (.inr ()) => rw [tq_wr_x hf]; exact hd a h
/-- the reader's corners are terrains -/
def tq_rd (I : tq_I) : Prop := ∀ j, j < 121 → 0 ≤ (I 116 j).toInt ∧ (I 116 j).toInt ≤ 5
def tq_m2 (I : tq_I) : Prop := I 115 1 = 0 ∨ 2 ≤ (I 115 3).toInt
theorem tq_rd_al {t : Int32} (ht : 0 ≤ t.toInt ∧ t.toInt ≤ 5) {ro co e : Nat} (n i : Nat) (a : tq_I) (h : tq_rd a) : tq_rd (tq_it (f_al1 t ro co e) n i a) := tq_itP tq_rd (fun i b hb j hj => by
  simp only [f_al1, tq_u]
  split
  · exact ht
  · exact hb j hj) n i a h
theorem tq_rd_letter {I : tq_I} {t : Int32} (ht : 0 ≤ t.toInt ∧ t.toInt ≤ 5) (h : tq_rd I) : tq_rd (I_X4_acceptLetter I t) := by
  unfold I_X4_acceptLetter
  split
  · split
    · exact tq_rd_al ht _ _ _ h
    · exact h
  · split
    · exact tq_rd_al ht _ _ _ h
    · exact h
theorem tq_m2_letter {I : tq_I} {t : Int32} (h : tq_m2 I) : tq_m2 (I_X4_acceptLetter I t) := by
  have e : ∀ j, j ≠ 2 → j ≠ 4 → I_X4_acceptLetter I t 115 j = I 115 j := by
    intro j h2 h4
    unfold I_X4_acceptLetter
    split
    · split
      · rw [tq_u_slot h4, tq_u_slot h2, fr_al1 _ _ _ _ (by decide)]
      · rfl
    · split
      · rw [tq_u_slot h4, tq_u_slot h2, fr_al1 _ _ _ _ (by decide)]
      · rfl
  unfold tq_m2
  rw [e 1 (by decide) (by decide), e 3 (by decide) (by decide)]
  exact h
theorem tq_m2_number {I : tq_I} {p L : Nat} (h : tq_m2 I) : tq_m2 (I_X4_acceptNumber I p L) := by
  have e : ∀ j, j ≠ 4 → I_X4_acceptNumber I p L 115 j = I 115 j := by
    intro j h4
    unfold I_X4_acceptNumber
    (repeat' split) <;> first | rfl | rw [tq_u_slot h4]
  unfold tq_m2
  rw [e 1 (by decide), e 3 (by decide)]
  exact h
theorem tq_m2_rowEnd {I : tq_I} (h : tq_m2 I) : tq_m2 (I_X4_acceptRowEnd I) := by
  unfold I_X4_acceptRowEnd
  split
  · split
    · exact h
    · rename_i hw
      split
      · split
        · rename_i h1
          right
          show 2 ≤ (I 115 2).toInt
          unfold r_X4_isRowWhole at hw
          rw [if_pos h1] at hw
          split at hw
          · exact absurd rfl hw
          · rename_i h2
            simp (disch := omega) only [Int32.lt_iff_toInt_lt, nI_toInt] at h2
            omega
        · rename_i h1
          right
          show 2 ≤ (I 115 3).toInt
          exact h.resolve_left h1
      · exact h
  · exact h
theorem tq_t97 {v : Int32} (h : ¬ tq_b ((nI 0).toInt ≤ v.toInt ∧ v.toInt ≤ (nI 5).toInt) = 0) : 0 ≤ v.toInt ∧ v.toInt ≤ 5 := ⟨(tq_t05 (tq_b10 h)).1, (tq_t05 (tq_b10 h)).2.1⟩
theorem tq_acc2 {I : tq_I} {p L : Nat} (h1 : tq_rd I) (h2 : tq_m2 I) : tq_rd (I_X4_accept I p L) ∧ tq_m2 (I_X4_accept I p L) := by
  unfold I_X4_accept
  split
  · exact ⟨h1, h2⟩
  · split
    · split
      · refine ⟨fun j hj => ?_, tq_m2_rowEnd h2⟩
        rw [fr_X4_acceptRowEnd _ (by decide)]
        exact h1 j hj
      · split
        · exact ⟨h1, h2⟩
        · rename_i ht
          exact ⟨tq_rd_letter (tq_t97 ht) h1, tq_m2_letter h2⟩
    · refine ⟨fun j hj => ?_, tq_m2_number h2⟩
      rw [fr_X4_acceptNumber _ _ _ (by decide)]
      exact h1 j hj
/-- what is known when the reader is through -/
def tq_foB (L : Nat) (r : Int32 × tq_I) : Prop := tq_rd r.2 ∧ tq_mr r.2 ∧ (r.1 = -1 → 2 ≤ (r.2 115 3).toInt ∧ 1 ≤ (r.2 115 1).toInt)
theorem tq_nneg1 {v : Int32} (h : 0 ≤ v.toInt) : ¬ v = -1 := fun e => by
  rw [e] at h
  exact absurd h (by decide)
theorem tq_fault_ok {I : tq_I} {L : Nat} (hL : I 111 1 = nI L) (hL150 : L ≤ 150) (hr : tq_rd I) : tq_foB L (r_X4_faultOf I L, I_X4_faultOf I L) := by
  show tq_foB L (tq_wr (f_fo1 L) (d_fo1 L) L _)
  refine tq_wrI (fun a => tq_foP L a ∧ tq_rd a.2 ∧ tq_m2 a.2) (tq_foB L) (fun a b ha hf => ?_) (fun a r ha hf => ?_) (fun a ha => ?_) L _ ⟨tq_fo0 hL, fun j hj => hr j hj, Or.inl rfl⟩
  · unfold f_fo1 at hf
    split at hf
    · cases hf
    · rename_i h1
      split at hf
      · rename_i hg
        cases hf
        exact ⟨(tq_foP_step hL150 ha.1 h1 hg).1, tq_acc2 ha.2.1 ha.2.2⟩
      · cases hf
  · unfold f_fo1 at hf
    split at hf
    · cases hf
    · split at hf
      · cases hf
      · cases hf
        exact ⟨(tq_acc2 ha.2.1 ha.2.2).1, tq_mr_accept ha.1.2.2.1, fun e => absurd e (tq_nneg1 ha.1.1)⟩
  · have hlen : ¬ a.2 111 1 = -1 := tq_nneg1 (by rw [ha.1.2.2.2, nI_toInt (by omega)]; omega)
    have hm := ha.1.2.2.1
    unfold d_fo1
    split
    · split
      · exact ⟨ha.2.1, hm, fun e => absurd e hlen⟩
      · rename_i h2
        have h3 : 0 < (a.2 115 1).toInt := by
          simp only [Int32.le_iff_toInt_le, Int32.toInt_zero] at h2
          omega
        split
        · exact ⟨ha.2.1, hm, fun e => absurd e hlen⟩
        · refine ⟨ha.2.1, hm, fun _ => ⟨?_, by show 1 ≤ (a.2 115 1).toInt; omega⟩⟩
          rcases ha.2.2 with h4 | h4
          · rw [h4] at h3
            exact absurd h3 (by decide)
          · exact h4
    · exact ⟨ha.2.1, hm, fun e => absurd e hlen⟩
/-- the reader changes its own cells alone -/
theorem fr_X4_faultOf (I : tq_I) (L : Nat) {cz : Nat} (hc : cz ≠ 115 ∧ cz ≠ 116) (jz : Nat) : I_X4_faultOf I L cz jz = I cz jz := by
  show (tq_wr (f_fo1 L) (d_fo1 L) L _).2 cz jz = I cz jz
  refine tq_wrI (fun a : Int32 × tq_I => a.2 cz jz = I cz jz) (fun r : Int32 × tq_I => r.2 cz jz = I cz jz) (fun a b ha hf => ?_) (fun a r ha hf => ?_) (fun a ha => ?_) L _ ?_
  · unfold f_fo1 at hf
    split at hf
    · cases hf
    · split at hf
      · cases hf
        show I_X4_accept a.2 _ L cz jz = _
        rw [fr_X4_accept _ _ _ hc]; exact ha
      · cases hf
  · unfold f_fo1 at hf
    split at hf
    · cases hf
    · split at hf
      · cases hf
      · cases hf
        show I_X4_accept a.2 _ L cz jz = _
        rw [fr_X4_accept _ _ _ hc]; exact ha
  · unfold d_fo1
    (repeat' split) <;> exact ha
  · show tq_u _ _ _ _ cz jz = _
    rw [tq_u_cell hc.1, tq_u_cell hc.1, tq_u_cell hc.1, tq_u_cell hc.1]
theorem tq_ok.fault {I : tq_I} {w h o c L : Nat} (k : tq_ok I w h o c L) : tq_ok (I_X4_faultOf I L) w h o c L := k.cong (fun cz hz jz => by
  have : cz ≠ 115 ∧ cz ≠ 116 := by
    simp only [List.mem_cons, List.not_mem_nil, or_false] at hz
    omega
  exact fr_X4_faultOf _ _ this jz)
theorem tq_pred1 {v : Int32} (h : 1 ≤ v.toInt) : v - nI 1 = nI (tq_N v - 1) := by
  have e := tq_nIN (show 0 ≤ v.toInt by omega)
  have h1 : 1 ≤ tq_N v := by unfold tq_N; omega
  conv => lhs; rw [e, tq_sub_nI h1]
theorem tq_N11 {v : Int32} (h : 0 ≤ v.toInt ∧ v.toInt ≤ 11) : tq_N v ≤ 11 := by unfold tq_N; omega
theorem tq_N10 {v : Int32} (h : 0 ≤ v.toInt ∧ v.toInt ≤ 10) : tq_N v ≤ 10 := by unfold tq_N; omega
def r_X11_load (I : tq_I) (w h o c L : Nat) : Int32 := (if (r_X4_faultOf I L) = (-1) then (((tq_cp (I_X8_startMap (tq_rec (I_X4_faultOf I L) o c) (tq_N ((tq_rec (I_X4_faultOf I L) o c) 115 3) - 1) (tq_N ((tq_rec (I_X4_faultOf I L) o c) 115 1)) (nI 0)) 116 0 3 0 121) 2 0) * ((tq_cp (I_X8_startMap (tq_rec (I_X4_faultOf I L) o c) (tq_N ((tq_rec (I_X4_faultOf I L) o c) 115 3) - 1) (tq_N ((tq_rec (I_X4_faultOf I L) o c) 115 1)) (nI 0)) 116 0 3 0 121) 2 1)) else (-4))
def I_X11_load (I : tq_I) (w h o c L : Nat) : tq_I := (if (r_X4_faultOf I L) = (-1) then (tq_cp (I_X8_startMap (tq_rec (I_X4_faultOf I L) o c) (tq_N ((tq_rec (I_X4_faultOf I L) o c) 115 3) - 1) (tq_N ((tq_rec (I_X4_faultOf I L) o c) 115 1)) (nI 0)) 116 0 3 0 121) else (I_X4_faultOf I L))
set_option maxRecDepth 20000 in
theorem c_X11_load (g : tq_G) (rest : List tq_S) (I : tq_I) (J : Int64) (w h o c L : Nat) (k : tq_ok I w h o c L) (hrd : tq_rd I) : CT g mX11_load 6 0 0 [.ref 0] (tq_SC ++ rest) tq_RR I J (tq_ret (tq_SC ++ rest) tq_RR (some (.int (r_X11_load I w h o c L))) (I_X11_load I w h o c L) J) := by
  refine CT.ret kX11_load (Nat.le_of_ble_eq_true rfl) (fun x0 C hR hZ => ?_)
  refine EV_en (lv' := [some (.ref 0)]) 0 rfl ?_
  refine EV_blk (own := 11) C rfl [(.aload_n 0, 0, 0, 0, 0), (.getfield 57, 11, 7, 375, 0), (.aload_n 0, 0, 0, 0, 0), (.getfield 47, 11, 5, 373, 0)] (pc' := 8) (by decide +kernel) (lv' := [some (.ref 0)]) (st' := [.ref 111, .ref 115]) (I' := I) (J' := J) rfl ?_
  refine EV_cV (own := 11) (idx := 276) (μ' := mX4_faultOf) (b := 115) (cb := 4) (av := [.ref 111]) (rest := []) C hR rfl (Or.inl ⟨806, by decide⟩) kX4_faultOf sX4_faultOf (c_X4_faultOf g rest I J L k.hL k.L150) rfl rfl (by decide +kernel) rfl (by decide) (Nat.le_of_ble_eq_true rfl) rfl ⟨Nat.zero_le _, Nat.zero_le _⟩ ?_
  refine EV_blk (own := 11) C rfl [(.iconst (-1), 0, 0, 0, (-1))] (pc' := 12) (by decide +kernel) (lv' := [some (.ref 0)]) (st' := [.int (-1), .int (r_X4_faultOf I L)]) (I' := (I_X4_faultOf I L)) (J' := J) rfl ?_
  refine EV_icmp_eq (off := 6) (tgt := 18) C (by decide +kernel) (by decide) (fun h1 => ?_) (fun h1 => ?_)
  · skip
    refine EV_blk (own := 11) C rfl [(.aload_n 0, 0, 0, 0, 0), (.getfield 19, 11, 1, 369, 0), (.aload_n 0, 0, 0, 0, 0), (.getfield 12, 11, 0, 368, 0)] (pc' := 26) (by decide +kernel) (lv' := [some (.ref 0)]) (st' := [.ref 1, .ref 17]) (I' := (I_X4_faultOf I L)) (J' := J) rfl ?_
    refine EV_cV (own := 11) (idx := 73) (μ' := mX2_record) (b := 17) (cb := 2) (av := [.ref 1]) (rest := []) C hR rfl (Or.inl ⟨403, by decide⟩) kX2_record sX2_record (c_X2_record g rest (I_X4_faultOf I L) J o c k.fault.ho k.fault.hc k.fault.o5 k.fault.c5 k.fault.bd) rfl rfl (by decide +kernel) rfl (by decide) (Nat.le_of_ble_eq_true rfl) rfl ⟨Nat.zero_le _, Nat.zero_le _⟩ ?_
    refine EV_blk (own := 11) C rfl [(.aload_n 0, 0, 0, 0, 0), (.getfield 12, 11, 0, 368, 0), (.aload_n 0, 0, 0, 0, 0), (.getfield 57, 11, 7, 375, 0), (.getfield 280, 4, 3, 332, 0), (.iconst 1, 0, 0, 0, (nI 1)), (.isub, 0, 0, 0, 0), (.aload_n 0, 0, 0, 0, 0), (.getfield 57, 11, 7, 375, 0), (.getfield 283, 4, 1, 329, 0), (.iconst 0, 0, 0, 0, (nI 0))] (pc' := 50) (by decide +kernel) (lv' := [some (.ref 0)]) (st' := [.int (nI 0), .int ((tq_rec (I_X4_faultOf I L) o c) 115 1), .int (((tq_rec (I_X4_faultOf I L) o c) 115 3) - (nI 1)), .ref 1]) (I' := (tq_rec (I_X4_faultOf I L) o c)) (J' := J) rfl ?_
    have hB := tq_fault_ok k.hL k.L150 hrd
    have hB3 := hB.2.2 h1
    have e3 : (tq_rec (I_X4_faultOf I L) o c) 115 3 = I_X4_faultOf I L 115 3 := fr_rec (by omega) _
    have e1 : (tq_rec (I_X4_faultOf I L) o c) 115 1 = I_X4_faultOf I L 115 1 := fr_rec (by omega) _
    have g3 : 2 ≤ ((tq_rec (I_X4_faultOf I L) o c) 115 3).toInt ∧ ((tq_rec (I_X4_faultOf I L) o c) 115 3).toInt ≤ 11 := by rw [e3]; exact ⟨hB3.1, hB.2.1.2.2.1.2⟩
    have g1 : 0 ≤ ((tq_rec (I_X4_faultOf I L) o c) 115 1).toInt ∧ ((tq_rec (I_X4_faultOf I L) o c) 115 1).toInt ≤ 10 := by rw [e1]; exact hB.2.1.1
    have n3 := tq_N11 (v := (tq_rec (I_X4_faultOf I L) o c) 115 3) ⟨by omega, by omega⟩
    have n1 := tq_N10 g1
    refine EV_ste (st' := [.int (nI 0), .int (nI (tq_N ((tq_rec (I_X4_faultOf I L) o c) 115 1))), .int (nI (tq_N ((tq_rec (I_X4_faultOf I L) o c) 115 3) - 1)), .ref 1]) (by rw [← tq_nIN g1.1, tq_pred1 (by omega)]) ?_
    refine EV_cV (own := 11) (idx := 61) (μ' := mX8_startMap) (b := 1) (cb := 8) (av := [.int (nI (tq_N ((tq_rec (I_X4_faultOf I L) o c) 115 3) - 1)), .int (nI (tq_N ((tq_rec (I_X4_faultOf I L) o c) 115 1))), .int (nI 0)]) (rest := []) C hR rfl (Or.inl ⟨345, by decide⟩) kX8_startMap sX8_startMap (c_X8_startMap g rest (tq_rec (I_X4_faultOf I L) o c) J (tq_N ((tq_rec (I_X4_faultOf I L) o c) 115 3) - 1) (tq_N ((tq_rec (I_X4_faultOf I L) o c) 115 1)) (nI 0) (by omega) (by omega)) rfl rfl (by decide +kernel) rfl (by decide) (Nat.le_of_ble_eq_true rfl) rfl ⟨Nat.zero_le _, Nat.zero_le _⟩ ?_
    refine EV_blk (own := 11) C rfl [(.aload_n 0, 0, 0, 0, 0), (.getfield 57, 11, 7, 375, 0), (.getfield 286, 4, 0, 327, 0), (.iconst 0, 0, 0, 0, (nI 0)), (.aload_n 0, 0, 0, 0, 0), (.getfield 12, 11, 0, 368, 0), (.getfield 77, 8, 0, 193, 0), (.getfield 289, 3, 2, 105, 0), (.iconst 0, 0, 0, 0, (nI 0)), (.bipush 121, 0, 0, 0, (nI 121))] (pc' := 74) (by decide +kernel) (lv' := [some (.ref 0)]) (st' := [.int (nI 121), .int (nI 0), .ref 3, .int (nI 0), .ref 116]) (I' := (I_X8_startMap (tq_rec (I_X4_faultOf I L) o c) (tq_N ((tq_rec (I_X4_faultOf I L) o c) 115 3) - 1) (tq_N ((tq_rec (I_X4_faultOf I L) o c) 115 1)) (nI 0))) (J' := J) rfl ?_
    refine EV_copy (own := 11) (idx := 290) (pl := 841) (sp' := 0) (dp' := 0) (z' := 121) C hR rfl (by decide) (by decide +kernel) (by decide) (Nat.le_of_ble_eq_true rfl) rfl rfl (nI_toInt (by omega)) (nI_toInt (by omega)) (nI_toInt (by omega)) (by omega) (by omega) ?_
    refine EV_blk (own := 11) C rfl [(.aload_n 0, 0, 0, 0, 0), (.getfield 12, 11, 0, 368, 0), (.getfield 77, 8, 0, 193, 0), (.getfield 81, 3, 0, 98, 0), (.aload_n 0, 0, 0, 0, 0), (.getfield 12, 11, 0, 368, 0), (.getfield 77, 8, 0, 193, 0), (.getfield 87, 3, 1, 102, 0), (.imul, 0, 0, 0, 0)] (pc' := 98) (by decide +kernel) (lv' := [some (.ref 0)]) (st' := [.int (((tq_cp (I_X8_startMap (tq_rec (I_X4_faultOf I L) o c) (tq_N ((tq_rec (I_X4_faultOf I L) o c) 115 3) - 1) (tq_N ((tq_rec (I_X4_faultOf I L) o c) 115 1)) (nI 0)) 116 0 3 0 121) 2 0) * ((tq_cp (I_X8_startMap (tq_rec (I_X4_faultOf I L) o c) (tq_N ((tq_rec (I_X4_faultOf I L) o c) 115 3) - 1) (tq_N ((tq_rec (I_X4_faultOf I L) o c) 115 1)) (nI 0)) 116 0 3 0 121) 2 1))]) (I' := (tq_cp (I_X8_startMap (tq_rec (I_X4_faultOf I L) o c) (tq_N ((tq_rec (I_X4_faultOf I L) o c) 115 3) - 1) (tq_N ((tq_rec (I_X4_faultOf I L) o c) 115 1)) (nI 0)) 116 0 3 0 121)) (J' := J) rfl ?_
    exact EV_iret C hZ rfl (by decide +kernel) (Nat.le_refl _) (Nat.le_refl _) ⟨tq_some (by simp only [r_X11_load, if_pos h1]), rfl, rfl, by simp only [I_X11_load, if_pos h1], rfl⟩
  · skip
    refine EV_blk (own := 11) C rfl [(.bipush (-4), 0, 0, 0, (-4))] (pc' := 17) (by decide +kernel) (lv' := [some (.ref 0)]) (st' := [.int (-4)]) (I' := (I_X4_faultOf I L)) (J' := J) rfl ?_
    exact EV_iret C hZ rfl (by decide +kernel) (Nat.le_refl _) (Nat.le_refl _) ⟨tq_some (by simp only [r_X11_load, if_neg h1]), rfl, rfl, by simp only [I_X11_load, if_neg h1], rfl⟩
