def tr_rP (I : tq_I) (L : Nat) (b : Int32 × tq_I) : Prop := tr_tx b.2 L ∧ tr_rs b.2 ∧ (∀ j, j ≠ 19 → j ≠ 23 → b.2 117 j = I 117 j) ∧ (b.1 = 0 ∨ b.1 = 1)
theorem tr_rP_it {I : tq_I} {L : Nat} (n : Nat) (a : Int32 × tq_I) (h : tr_rP I L a) : tr_rP I L (tq_wx (f_mrr1 L) n a) := by
  refine tq_wxP (tr_rP I L) (fun a b ha h => ?_) (fun a b ha h => ?_) n a h
  · unfold f_mrr1 at h
    (repeat' split at h) <;> first | (simp only [reduceCtorEq] at h; done) | skip
    rw [← Sum.inl.inj h]
    obtain ⟨q0, q1, q2, q3, q4⟩ := tr_item ha.1.here.here ha.2.1.here.here
    unfold tr_rP
    dsimp only
    exact ⟨q1, q2, fun j h1 h2 => by rw [q3 j h1 h2, fs_here _ _ _ h1, fs_here _ _ _ h1]; exact ha.2.2.1 j h1 h2, q0⟩
  · unfold f_mrr1 at h
    (repeat' split at h) <;> first | (simp only [reduceCtorEq] at h; done) | skip
    · rw [← Sum.inr.inj h]; exact ha
    · rw [← Sum.inr.inj h]; unfold tr_rP; dsimp only; exact ⟨ha.1.here, ha.2.1.here, fun j h1 h2 => by rw [fs_here _ _ _ h1]; exact ha.2.2.1 j h1 h2, ha.2.2.2⟩
    · rw [← Sum.inr.inj h]; unfold tr_rP; dsimp only; exact ⟨ha.1.here.here, ha.2.1.here.here, fun j h1 h2 => by rw [fs_here _ _ _ h1, fs_here _ _ _ h1]; exact ha.2.2.1 j h1 h2, ha.2.2.2⟩
theorem tr_z23 {I : tq_I} {L : Nat} (k : tr_tx I L) (k2 : tr_rs I) : tr_tx (tq_u I 117 23 (nI 0)) L ∧ tr_rs (tq_u I 117 23 (nI 0)) := by
  refine ⟨⟨by rw [tq_u_slot (by decide)]; exact k.1, k.2.1, by rw [tq_u_slot (by decide)]; exact k.2.2⟩, by rw [tq_u_slot (by decide)]; exact k2.1, by rw [tq_u_same]; decide, by rw [tq_u_slot (by decide)]; exact k2.2.2⟩
/-- a row's items read -/
def tr_rwS (I : tq_I) (L : Nat) : Int32 × tq_I := tq_wx (f_mrr1 L) (L + 1) (r_X12_readsItem (tq_u I 117 23 (nI 0)) L, I_X12_readsItem (tq_u I 117 23 (nI 0)) L)
theorem tr_rwP {I : tq_I} {L : Nat} (k : tr_tx I L) (k2 : tr_rs I) : tr_rP I L (tr_rwS I L) := by
  obtain ⟨h1, h2⟩ := tr_z23 k k2
  obtain ⟨q0, q1, q2, q3, q4⟩ := tr_item h1 h2
  unfold tr_rwS
  refine tr_rP_it _ _ ?_
  unfold tr_rP
  dsimp only
  exact ⟨q1, q2, fun j e1 e2 => by rw [q3 j e1 e2, tq_u_slot e2], q0⟩
theorem fr_rwS {I : tq_I} {L : Nat} {cz : Nat} (hc : cz ≠ 117 ∧ cz ≠ 130) (jz : Nat) : (tr_rwS I L).2 cz jz = I cz jz := by
  unfold tr_rwS
  refine tq_wxP (fun (b : Int32 × tq_I) => b.2 cz jz = I cz jz) (fun a b ha h => ?_) (fun a b ha h => ?_) (L + 1) _ (by dsimp only; rw [fr_X12_readsItem _ _ hc, tq_u_cell hc.1])
  · unfold f_mrr1 at h
    (repeat' split at h) <;> first | (simp only [reduceCtorEq] at h; done) | skip
    rw [← Sum.inl.inj h]
    dsimp only
    rw [fr_X12_readsItem _ _ hc, fr_X12_here _ _ hc.1, fr_X12_here _ _ hc.1]
    exact ha
  · unfold f_mrr1 at h
    (repeat' split at h) <;> first | (simp only [reduceCtorEq] at h; done) | skip
    · rw [← Sum.inr.inj h]; exact ha
    · rw [← Sum.inr.inj h]; dsimp only; rw [fr_X12_here _ _ hc.1]; exact ha
    · rw [← Sum.inr.inj h]; dsimp only; rw [fr_X12_here _ _ hc.1, fr_X12_here _ _ hc.1]; exact ha
def r_X12_readsRow (I : tq_I) (L : Nat) : Int32 := (if (tr_rwS I L).1 = 0 then (nI 0) else (if (r_X12_here ((tr_rwS I L).2) L) = (-1) then (if ((I_X12_here ((tr_rwS I L).2) L) 117 22) = 0 then (if ((I_X12_here ((tr_rwS I L).2) L) 117 23) ≤ (nI 1) then (nI 0) else (if ((I_X12_here ((tr_rwS I L).2) L) 117 22) ≤ 0 then (nI 0) else (nI 0))) else (if ((I_X12_here ((tr_rwS I L).2) L) 117 23) = ((I_X12_here ((tr_rwS I L).2) L) 117 21) then (if ((I_X12_here ((tr_rwS I L).2) L) 117 22) ≤ 0 then (nI 0) else (nI 0)) else (nI 0))) else (if ((I_X12_here ((tr_rwS I L).2) L) 117 22) = 0 then (if ((I_X12_here ((tr_rwS I L).2) L) 117 23) ≤ (nI 1) then (nI 0) else (if (nI 10) ≤ ((I_X12_here ((tr_rwS I L).2) L) 117 22) then (nI 0) else (nI 1))) else (if ((I_X12_here ((tr_rwS I L).2) L) 117 23) = ((I_X12_here ((tr_rwS I L).2) L) 117 21) then (if (nI 10) ≤ ((I_X12_here ((tr_rwS I L).2) L) 117 22) then (nI 0) else (nI 1)) else (nI 0)))))
def I_X12_readsRow (I : tq_I) (L : Nat) : tq_I := (if (tr_rwS I L).1 = 0 then (tq_u ((tr_rwS I L).2) 117 24 (nI 0)) else (if (r_X12_here ((tr_rwS I L).2) L) = (-1) then (if ((I_X12_here ((tr_rwS I L).2) L) 117 22) = 0 then (if ((I_X12_here ((tr_rwS I L).2) L) 117 23) ≤ (nI 1) then (tq_u (tq_u (tq_u (tq_u (I_X12_here ((tr_rwS I L).2) L) 117 24 (nI 0)) 117 21 ((I_X12_here ((tr_rwS I L).2) L) 117 23)) 117 22 (((I_X12_here ((tr_rwS I L).2) L) 117 22) + (nI 1))) 117 19 (((I_X12_here ((tr_rwS I L).2) L) 117 19) + (nI 0))) else (if ((I_X12_here ((tr_rwS I L).2) L) 117 22) ≤ 0 then (tq_u (tq_u (tq_u (tq_u (I_X12_here ((tr_rwS I L).2) L) 117 24 (nI 0)) 117 21 ((I_X12_here ((tr_rwS I L).2) L) 117 23)) 117 22 (((I_X12_here ((tr_rwS I L).2) L) 117 22) + (nI 1))) 117 19 (((I_X12_here ((tr_rwS I L).2) L) 117 19) + (nI 0))) else (tq_u (tq_u (tq_u (tq_u (I_X12_here ((tr_rwS I L).2) L) 117 24 (nI 1)) 117 21 ((I_X12_here ((tr_rwS I L).2) L) 117 23)) 117 22 (((I_X12_here ((tr_rwS I L).2) L) 117 22) + (nI 1))) 117 19 (((I_X12_here ((tr_rwS I L).2) L) 117 19) + (nI 0))))) else (if ((I_X12_here ((tr_rwS I L).2) L) 117 23) = ((I_X12_here ((tr_rwS I L).2) L) 117 21) then (if ((I_X12_here ((tr_rwS I L).2) L) 117 22) ≤ 0 then (tq_u (tq_u (tq_u (tq_u (I_X12_here ((tr_rwS I L).2) L) 117 24 (nI 0)) 117 21 ((I_X12_here ((tr_rwS I L).2) L) 117 21)) 117 22 (((I_X12_here ((tr_rwS I L).2) L) 117 22) + (nI 1))) 117 19 (((I_X12_here ((tr_rwS I L).2) L) 117 19) + (nI 0))) else (tq_u (tq_u (tq_u (tq_u (I_X12_here ((tr_rwS I L).2) L) 117 24 (nI 1)) 117 21 ((I_X12_here ((tr_rwS I L).2) L) 117 21)) 117 22 (((I_X12_here ((tr_rwS I L).2) L) 117 22) + (nI 1))) 117 19 (((I_X12_here ((tr_rwS I L).2) L) 117 19) + (nI 0)))) else (tq_u (tq_u (tq_u (tq_u (I_X12_here ((tr_rwS I L).2) L) 117 24 (nI 0)) 117 21 ((I_X12_here ((tr_rwS I L).2) L) 117 21)) 117 22 (((I_X12_here ((tr_rwS I L).2) L) 117 22) + (nI 1))) 117 19 (((I_X12_here ((tr_rwS I L).2) L) 117 19) + (nI 0))))) else (if ((I_X12_here ((tr_rwS I L).2) L) 117 22) = 0 then (if ((I_X12_here ((tr_rwS I L).2) L) 117 23) ≤ (nI 1) then (tq_u (tq_u (tq_u (tq_u (I_X12_here ((tr_rwS I L).2) L) 117 24 (nI 0)) 117 21 ((I_X12_here ((tr_rwS I L).2) L) 117 23)) 117 22 (((I_X12_here ((tr_rwS I L).2) L) 117 22) + (nI 1))) 117 19 (((I_X12_here ((tr_rwS I L).2) L) 117 19) + (nI 0))) else (if (nI 10) ≤ ((I_X12_here ((tr_rwS I L).2) L) 117 22) then (tq_u (tq_u (tq_u (tq_u (I_X12_here ((tr_rwS I L).2) L) 117 24 (nI 0)) 117 21 ((I_X12_here ((tr_rwS I L).2) L) 117 23)) 117 22 (((I_X12_here ((tr_rwS I L).2) L) 117 22) + (nI 1))) 117 19 (((I_X12_here ((tr_rwS I L).2) L) 117 19) + (nI 0))) else (tq_u (tq_u (tq_u (tq_u (I_X12_here ((tr_rwS I L).2) L) 117 24 (nI 1)) 117 21 ((I_X12_here ((tr_rwS I L).2) L) 117 23)) 117 22 (((I_X12_here ((tr_rwS I L).2) L) 117 22) + (nI 1))) 117 19 (((I_X12_here ((tr_rwS I L).2) L) 117 19) + (nI 1))))) else (if ((I_X12_here ((tr_rwS I L).2) L) 117 23) = ((I_X12_here ((tr_rwS I L).2) L) 117 21) then (if (nI 10) ≤ ((I_X12_here ((tr_rwS I L).2) L) 117 22) then (tq_u (tq_u (tq_u (tq_u (I_X12_here ((tr_rwS I L).2) L) 117 24 (nI 0)) 117 21 ((I_X12_here ((tr_rwS I L).2) L) 117 21)) 117 22 (((I_X12_here ((tr_rwS I L).2) L) 117 22) + (nI 1))) 117 19 (((I_X12_here ((tr_rwS I L).2) L) 117 19) + (nI 0))) else (tq_u (tq_u (tq_u (tq_u (I_X12_here ((tr_rwS I L).2) L) 117 24 (nI 1)) 117 21 ((I_X12_here ((tr_rwS I L).2) L) 117 21)) 117 22 (((I_X12_here ((tr_rwS I L).2) L) 117 22) + (nI 1))) 117 19 (((I_X12_here ((tr_rwS I L).2) L) 117 19) + (nI 1)))) else (tq_u (tq_u (tq_u (tq_u (I_X12_here ((tr_rwS I L).2) L) 117 24 (nI 0)) 117 21 ((I_X12_here ((tr_rwS I L).2) L) 117 21)) 117 22 (((I_X12_here ((tr_rwS I L).2) L) 117 22) + (nI 1))) 117 19 (((I_X12_here ((tr_rwS I L).2) L) 117 19) + (nI 0)))))))
set_option maxRecDepth 20000 in
theorem c_X12_readsRow (g : tq_G) (I : tq_I) (J : Int64) (L : Nat) (k : tr_tx I L) (k2 : tr_rs I) : CT g mX12_readsRow 3 0 0 [.ref 117] (tq_SC ++ tq_SR) tq_RR I J (tq_ret (tq_SC ++ tq_SR) tq_RR (some (.int (r_X12_readsRow I L))) (I_X12_readsRow I L) J) := by
  refine CT.ret kX12_readsRow (Nat.le_of_ble_eq_true rfl) (fun x0 C hR hZ => ?_)
  refine EV_en (lv' := [some (.ref 117), none, none, none]) 3 rfl ?_
  refine EV_blk (own := 12) C rfl [(.aload_n 0, 0, 0, 0, 0), (.iconst 0, 0, 0, 0, (nI 0)), (.putfield 198, 12, 23, 922, 0), (.aload_n 0, 0, 0, 0, 0)] (pc' := 6) (by decide +kernel) (lv' := [some (.ref 117), none, none, none]) (st' := [.ref 117]) (I' := (tq_u I 117 23 (nI 0))) (J' := J) rfl ?_
  refine EV_cV (own := 12) (idx := 201) (μ' := mX12_readsItem) (b := 117) (cb := 12) (av := []) (rest := []) C hR rfl (Or.inl ⟨1245, by decide⟩) kX12_readsItem sX12_readsItem (c_X12_readsItem g (tq_u I 117 23 (nI 0)) J L (tr_z23 k k2).1 (tr_z23 k k2).2) rfl rfl (by decide +kernel) rfl (by decide) (Nat.le_of_ble_eq_true rfl) rfl ⟨Nat.zero_le _, Nat.zero_le _⟩ ?_
  refine EV_blk (own := 12) C rfl [(.istore_n 1, 0, 0, 0, 0)] (pc' := 10) (by decide +kernel) (lv' := [some (.ref 117), some (.int (r_X12_readsItem (tq_u I 117 23 (nI 0)) L)), none, none]) (st' := []) (I' := (I_X12_readsItem (tq_u I 117 23 (nI 0)) L)) (J' := J) rfl ?_
  have hz := tr_z23 k k2
  have hit := tr_item hz.1 hz.2
  have hrP := tr_rwP k k2
  have hlp := lp_mrr1 (g := g) C hR J L (L + 1) (r_X12_readsItem (tq_u I 117 23 (nI 0)) L, I_X12_readsItem (tq_u I 117 23 (nI 0)) L)
  rw [show tq_wx (f_mrr1 L) (L + 1) (r_X12_readsItem (tq_u I 117 23 (nI 0)) L, I_X12_readsItem (tq_u I 117 23 (nI 0)) L) = tr_rwS I L from rfl] at hlp
  dsimp only at hlp
  refine hlp (Or.inr (Nat.le_add_right _ _)) ⟨hit.2.1, hit.2.2.1⟩ ?_
  clear hlp
  refine EV_blk (own := 12) C rfl [(.iload_n 1, 0, 0, 0, 0)] (pc' := 40) (by decide +kernel) (lv' := [some (.ref 117), some (.int ((tr_rwS I L).1)), none, none]) (st' := [.int ((tr_rwS I L).1)]) (I' := (tr_rwS I L).2) (J' := J) rfl ?_
  refine EV_if_ne (off := 10) (tgt := 50) C (by decide +kernel) (by decide) (fun h1 => ?_) (fun h1 => ?_)
  · skip
    refine EV_blk (own := 12) C rfl [(.aload_n 0, 0, 0, 0, 0)] (pc' := 51) (by decide +kernel) (lv' := [some (.ref 117), some (.int ((tr_rwS I L).1)), none, none]) (st' := [.ref 117]) (I' := (tr_rwS I L).2) (J' := J) rfl ?_
    refine EV_cV (own := 12) (idx := 185) (μ' := mX12_here) (b := 117) (cb := 12) (av := []) (rest := []) C hR rfl (Or.inl ⟨1253, by decide⟩) kX12_here sX12_here (c_X12_here g ((tr_rwS I L).2) J L hrP.1) rfl rfl (by decide +kernel) rfl (by decide) (Nat.le_of_ble_eq_true rfl) rfl ⟨Nat.zero_le _, Nat.zero_le _⟩ ?_
    refine EV_blk (own := 12) C rfl [(.iconst (-1), 0, 0, 0, (-1))] (pc' := 55) (by decide +kernel) (lv' := [some (.ref 117), some (.int ((tr_rwS I L).1)), none, none]) (st' := [.int (-1), .int (r_X12_here ((tr_rwS I L).2) L)]) (I' := (I_X12_here ((tr_rwS I L).2) L)) (J' := J) rfl ?_
    refine EV_icmp_ne (off := 7) (tgt := 62) C (by decide +kernel) (by decide) (fun h2 => ?_) (fun h2 => ?_)
    · skip
      refine EV_blk (own := 12) C rfl [(.iconst 0, 0, 0, 0, (nI 0)), (.istore_n 2, 0, 0, 0, 0), (.aload_n 0, 0, 0, 0, 0), (.getfield 192, 12, 22, 921, 0)] (pc' := 68) (by decide +kernel) (lv' := [some (.ref 117), some (.int ((tr_rwS I L).1)), some (.int (nI 0)), none]) (st' := [.int ((I_X12_here ((tr_rwS I L).2) L) 117 22)]) (I' := (I_X12_here ((tr_rwS I L).2) L)) (J' := J) rfl ?_
      refine EV_if_ne (off := 19) (tgt := 87) C (by decide +kernel) (by decide) (fun hrow => ?_) (fun hrow => ?_)
      · skip
        refine EV_blk (own := 12) C rfl [(.aload_n 0, 0, 0, 0, 0), (.getfield 198, 12, 23, 922, 0), (.aload_n 0, 0, 0, 0, 0), (.getfield 195, 12, 21, 920, 0)] (pc' := 95) (by decide +kernel) (lv' := [some (.ref 117), some (.int ((tr_rwS I L).1)), some (.int (nI 0)), none]) (st' := [.int ((I_X12_here ((tr_rwS I L).2) L) 117 21), .int ((I_X12_here ((tr_rwS I L).2) L) 117 23)]) (I' := (I_X12_here ((tr_rwS I L).2) L)) (J' := J) rfl ?_
        refine EV_icmp_ne (off := 7) (tgt := 102) C (by decide +kernel) (by decide) (fun h3 => ?_) (fun h3 => ?_)
        · skip
          refine EV_blk (own := 12) C rfl [(.iconst 0, 0, 0, 0, (nI 0)), (.istore_n 3, 0, 0, 0, 0), (.aload_n 0, 0, 0, 0, 0), (.iload_n 3, 0, 0, 0, 0)] (pc' := 106) (by decide +kernel) (lv' := [some (.ref 117), some (.int ((tr_rwS I L).1)), some (.int (nI 0)), some (.int (nI 0))]) (st' := [.int (nI 0), .ref 117]) (I' := (I_X12_here ((tr_rwS I L).2) L)) (J' := J) rfl ?_
          refine EV_if_eq (off := 30) (tgt := 136) C (by decide +kernel) (by decide) (fun h4 => ?_) (fun h4 => ?_)
          · skip
            refine EV_blk (own := 12) C rfl [(.iconst 0, 0, 0, 0, (nI 0))] (pc' := 137) (by decide +kernel) (lv' := [some (.ref 117), some (.int ((tr_rwS I L).1)), some (.int (nI 0)), some (.int (nI 0))]) (st' := [.int (nI 0), .ref 117]) (I' := (I_X12_here ((tr_rwS I L).2) L)) (J' := J) rfl ?_
            refine EV_puti (own := 12) (idx := 205) (c := 12) (j := 24) (pl := 923) C rfl (Or.inl (by decide)) (by decide +kernel) rfl rfl (Or.inr ⟨rfl, by decide⟩) ?_
            refine EV_blk (own := 12) C rfl [(.aload_n 0, 0, 0, 0, 0), (.aload_n 0, 0, 0, 0, 0), (.getfield 192, 12, 22, 921, 0)] (pc' := 145) (by decide +kernel) (lv' := [some (.ref 117), some (.int ((tr_rwS I L).1)), some (.int (nI 0)), some (.int (nI 0))]) (st' := [.int ((tq_u (I_X12_here ((tr_rwS I L).2) L) 117 24 (nI 0)) 117 22), .ref 117]) (I' := (tq_u (I_X12_here ((tr_rwS I L).2) L) 117 24 (nI 0))) (J' := J) rfl ?_
            refine EV_if_ne (off := 10) (tgt := 155) C (by decide +kernel) (by decide) (fun h5 => ?_) (fun h5 => ?_)
            · skip
              refine EV_blk (own := 12) C rfl [(.aload_n 0, 0, 0, 0, 0), (.getfield 195, 12, 21, 920, 0), (.putfield 195, 12, 21, 920, 0)] (pc' := 162) (by decide +kernel) (lv' := [some (.ref 117), some (.int ((tr_rwS I L).1)), some (.int (nI 0)), some (.int (nI 0))]) (st' := []) (I' := (tq_u (tq_u (I_X12_here ((tr_rwS I L).2) L) 117 24 (nI 0)) 117 21 ((tq_u (I_X12_here ((tr_rwS I L).2) L) 117 24 (nI 0)) 117 21))) (J' := J) rfl ?_
              rw [show ((tq_u (I_X12_here ((tr_rwS I L).2) L) 117 24 (nI 0)) 117 21) = ((I_X12_here ((tr_rwS I L).2) L) 117 21) from by simp (disch := decide) only [tq_u_slot]]
              refine EV_blk (own := 12) C rfl [(.aload_n 0, 0, 0, 0, 0), (.dup, 0, 0, 0, 0), (.getfield 192, 12, 22, 921, 0), (.iconst 1, 0, 0, 0, (nI 1)), (.iadd, 0, 0, 0, 0), (.putfield 192, 12, 22, 921, 0)] (pc' := 172) (by decide +kernel) (lv' := [some (.ref 117), some (.int ((tr_rwS I L).1)), some (.int (nI 0)), some (.int (nI 0))]) (st' := []) (I' := (tq_u (tq_u (tq_u (I_X12_here ((tr_rwS I L).2) L) 117 24 (nI 0)) 117 21 ((I_X12_here ((tr_rwS I L).2) L) 117 21)) 117 22 (((tq_u (tq_u (I_X12_here ((tr_rwS I L).2) L) 117 24 (nI 0)) 117 21 ((I_X12_here ((tr_rwS I L).2) L) 117 21)) 117 22) + (nI 1)))) (J' := J) rfl ?_
              rw [show ((tq_u (tq_u (I_X12_here ((tr_rwS I L).2) L) 117 24 (nI 0)) 117 21 ((I_X12_here ((tr_rwS I L).2) L) 117 21)) 117 22) = ((I_X12_here ((tr_rwS I L).2) L) 117 22) from by simp (disch := decide) only [tq_u_slot]]
              refine EV_blk (own := 12) C rfl [(.aload_n 0, 0, 0, 0, 0), (.dup, 0, 0, 0, 0), (.getfield 182, 12, 19, 918, 0), (.aload_n 0, 0, 0, 0, 0), (.getfield 205, 12, 24, 923, 0)] (pc' := 181) (by decide +kernel) (lv' := [some (.ref 117), some (.int ((tr_rwS I L).1)), some (.int (nI 0)), some (.int (nI 0))]) (st' := [.int ((tq_u (tq_u (tq_u (I_X12_here ((tr_rwS I L).2) L) 117 24 (nI 0)) 117 21 ((I_X12_here ((tr_rwS I L).2) L) 117 21)) 117 22 (((I_X12_here ((tr_rwS I L).2) L) 117 22) + (nI 1))) 117 24), .int ((tq_u (tq_u (tq_u (I_X12_here ((tr_rwS I L).2) L) 117 24 (nI 0)) 117 21 ((I_X12_here ((tr_rwS I L).2) L) 117 21)) 117 22 (((I_X12_here ((tr_rwS I L).2) L) 117 22) + (nI 1))) 117 19), .ref 117]) (I' := (tq_u (tq_u (tq_u (I_X12_here ((tr_rwS I L).2) L) 117 24 (nI 0)) 117 21 ((I_X12_here ((tr_rwS I L).2) L) 117 21)) 117 22 (((I_X12_here ((tr_rwS I L).2) L) 117 22) + (nI 1)))) (J' := J) rfl ?_
              refine EV_ste (st' := [.int (nI 0), .int ((tq_u (tq_u (tq_u (I_X12_here ((tr_rwS I L).2) L) 117 24 (nI 0)) 117 21 ((I_X12_here ((tr_rwS I L).2) L) 117 21)) 117 22 (((I_X12_here ((tr_rwS I L).2) L) 117 22) + (nI 1))) 117 19), .ref 117]) (by simp (disch := decide) only [tq_u_same, tq_u_slot]) ?_
              refine EV_if_eq (off := 11) (tgt := 192) C (by decide +kernel) (by decide) (fun h6 => ?_) (fun h6 => ?_)
              · skip
                refine EV_blk (own := 12) C rfl [(.iconst 0, 0, 0, 0, (nI 0)), (.iadd, 0, 0, 0, 0), (.putfield 182, 12, 19, 918, 0)] (pc' := 197) (by decide +kernel) (lv' := [some (.ref 117), some (.int ((tr_rwS I L).1)), some (.int (nI 0)), some (.int (nI 0))]) (st' := []) (I' := (tq_u (tq_u (tq_u (tq_u (I_X12_here ((tr_rwS I L).2) L) 117 24 (nI 0)) 117 21 ((I_X12_here ((tr_rwS I L).2) L) 117 21)) 117 22 (((I_X12_here ((tr_rwS I L).2) L) 117 22) + (nI 1))) 117 19 (((tq_u (tq_u (tq_u (I_X12_here ((tr_rwS I L).2) L) 117 24 (nI 0)) 117 21 ((I_X12_here ((tr_rwS I L).2) L) 117 21)) 117 22 (((I_X12_here ((tr_rwS I L).2) L) 117 22) + (nI 1))) 117 19) + (nI 0)))) (J' := J) rfl ?_
                rw [show ((tq_u (tq_u (tq_u (I_X12_here ((tr_rwS I L).2) L) 117 24 (nI 0)) 117 21 ((I_X12_here ((tr_rwS I L).2) L) 117 21)) 117 22 (((I_X12_here ((tr_rwS I L).2) L) 117 22) + (nI 1))) 117 19) = ((I_X12_here ((tr_rwS I L).2) L) 117 19) from by simp (disch := decide) only [tq_u_slot]]
                refine EV_blk (own := 12) C rfl [(.aload_n 0, 0, 0, 0, 0), (.getfield 205, 12, 24, 923, 0)] (pc' := 201) (by decide +kernel) (lv' := [some (.ref 117), some (.int ((tr_rwS I L).1)), some (.int (nI 0)), some (.int (nI 0))]) (st' := [.int ((tq_u (tq_u (tq_u (tq_u (I_X12_here ((tr_rwS I L).2) L) 117 24 (nI 0)) 117 21 ((I_X12_here ((tr_rwS I L).2) L) 117 21)) 117 22 (((I_X12_here ((tr_rwS I L).2) L) 117 22) + (nI 1))) 117 19 (((I_X12_here ((tr_rwS I L).2) L) 117 19) + (nI 0))) 117 24)]) (I' := (tq_u (tq_u (tq_u (tq_u (I_X12_here ((tr_rwS I L).2) L) 117 24 (nI 0)) 117 21 ((I_X12_here ((tr_rwS I L).2) L) 117 21)) 117 22 (((I_X12_here ((tr_rwS I L).2) L) 117 22) + (nI 1))) 117 19 (((I_X12_here ((tr_rwS I L).2) L) 117 19) + (nI 0)))) (J' := J) rfl ?_
                refine EV_ste (st' := [.int (nI 0)]) (by simp (disch := decide) only [tq_u_same, tq_u_slot]) ?_
                refine EV_if_eq (off := 11) (tgt := 212) C (by decide +kernel) (by decide) (fun h7 => ?_) (fun h7 => ?_)
                · skip
                  refine EV_blk (own := 12) C rfl [(.iconst 0, 0, 0, 0, (nI 0))] (pc' := 213) (by decide +kernel) (lv' := [some (.ref 117), some (.int ((tr_rwS I L).1)), some (.int (nI 0)), some (.int (nI 0))]) (st' := [.int (nI 0)]) (I' := (tq_u (tq_u (tq_u (tq_u (I_X12_here ((tr_rwS I L).2) L) 117 24 (nI 0)) 117 21 ((I_X12_here ((tr_rwS I L).2) L) 117 21)) 117 22 (((I_X12_here ((tr_rwS I L).2) L) 117 22) + (nI 1))) 117 19 (((I_X12_here ((tr_rwS I L).2) L) 117 19) + (nI 0)))) (J' := J) rfl ?_
                  exact EV_zret C hZ rfl (by decide) (by decide +kernel) (Nat.le_refl _) (Nat.le_refl _) ⟨tq_some (by simp only [r_X12_readsRow, if_neg h1, if_neg h2, if_neg hrow, if_neg h3, if_pos h4, if_neg h5, if_pos h6, if_pos h7]), rfl, rfl, by simp only [I_X12_readsRow, if_neg h1, if_neg h2, if_neg hrow, if_neg h3, if_pos h4, if_neg h5, if_pos h6, if_pos h7], rfl⟩
                · skip
                  exact absurd (by decide) h7
              · skip
                exact absurd (by decide) h6
            · skip
              exact absurd (by rw [tq_u_slot (by decide)] at h5; exact h5) hrow
          · skip
            exact absurd (by decide) h4
        · skip
          refine EV_blk (own := 12) C rfl [(.iconst 1, 0, 0, 0, (nI 1)), (.goto 4, 0, 0, 0, 0), (.istore_n 3, 0, 0, 0, 0), (.aload_n 0, 0, 0, 0, 0), (.iload_n 3, 0, 0, 0, 0)] (pc' := 106) (by decide +kernel) (lv' := [some (.ref 117), some (.int ((tr_rwS I L).1)), some (.int (nI 0)), some (.int (nI 1))]) (st' := [.int (nI 1), .ref 117]) (I' := (I_X12_here ((tr_rwS I L).2) L)) (J' := J) rfl ?_
          refine EV_if_eq (off := 30) (tgt := 136) C (by decide +kernel) (by decide) (fun h8 => ?_) (fun h8 => ?_)
          · skip
            exact absurd h8 (by decide)
          · skip
            refine EV_blk (own := 12) C rfl [(.iload_n 2, 0, 0, 0, 0)] (pc' := 110) (by decide +kernel) (lv' := [some (.ref 117), some (.int ((tr_rwS I L).1)), some (.int (nI 0)), some (.int (nI 1))]) (st' := [.int (nI 0), .ref 117]) (I' := (I_X12_here ((tr_rwS I L).2) L)) (J' := J) rfl ?_
            refine EV_if_eq (off := 13) (tgt := 123) C (by decide +kernel) (by decide) (fun h9 => ?_) (fun h9 => ?_)
            · skip
              refine EV_blk (own := 12) C rfl [(.aload_n 0, 0, 0, 0, 0), (.getfield 192, 12, 22, 921, 0), (.bipush 10, 0, 0, 0, (nI 10))] (pc' := 129) (by decide +kernel) (lv' := [some (.ref 117), some (.int ((tr_rwS I L).1)), some (.int (nI 0)), some (.int (nI 1))]) (st' := [.int (nI 10), .int ((I_X12_here ((tr_rwS I L).2) L) 117 22), .ref 117]) (I' := (I_X12_here ((tr_rwS I L).2) L)) (J' := J) rfl ?_
              refine EV_icmp_ge (off := 7) (tgt := 136) C (by decide +kernel) (by decide) (fun h10 => ?_) (fun h10 => ?_)
              · skip
                refine EV_blk (own := 12) C rfl [(.iconst 0, 0, 0, 0, (nI 0))] (pc' := 137) (by decide +kernel) (lv' := [some (.ref 117), some (.int ((tr_rwS I L).1)), some (.int (nI 0)), some (.int (nI 1))]) (st' := [.int (nI 0), .ref 117]) (I' := (I_X12_here ((tr_rwS I L).2) L)) (J' := J) rfl ?_
                refine EV_puti (own := 12) (idx := 205) (c := 12) (j := 24) (pl := 923) C rfl (Or.inl (by decide)) (by decide +kernel) rfl rfl (Or.inr ⟨rfl, by decide⟩) ?_
                refine EV_blk (own := 12) C rfl [(.aload_n 0, 0, 0, 0, 0), (.aload_n 0, 0, 0, 0, 0), (.getfield 192, 12, 22, 921, 0)] (pc' := 145) (by decide +kernel) (lv' := [some (.ref 117), some (.int ((tr_rwS I L).1)), some (.int (nI 0)), some (.int (nI 1))]) (st' := [.int ((tq_u (I_X12_here ((tr_rwS I L).2) L) 117 24 (nI 0)) 117 22), .ref 117]) (I' := (tq_u (I_X12_here ((tr_rwS I L).2) L) 117 24 (nI 0))) (J' := J) rfl ?_
                refine EV_if_ne (off := 10) (tgt := 155) C (by decide +kernel) (by decide) (fun h11 => ?_) (fun h11 => ?_)
                · skip
                  refine EV_blk (own := 12) C rfl [(.aload_n 0, 0, 0, 0, 0), (.getfield 195, 12, 21, 920, 0), (.putfield 195, 12, 21, 920, 0)] (pc' := 162) (by decide +kernel) (lv' := [some (.ref 117), some (.int ((tr_rwS I L).1)), some (.int (nI 0)), some (.int (nI 1))]) (st' := []) (I' := (tq_u (tq_u (I_X12_here ((tr_rwS I L).2) L) 117 24 (nI 0)) 117 21 ((tq_u (I_X12_here ((tr_rwS I L).2) L) 117 24 (nI 0)) 117 21))) (J' := J) rfl ?_
                  rw [show ((tq_u (I_X12_here ((tr_rwS I L).2) L) 117 24 (nI 0)) 117 21) = ((I_X12_here ((tr_rwS I L).2) L) 117 21) from by simp (disch := decide) only [tq_u_slot]]
                  refine EV_blk (own := 12) C rfl [(.aload_n 0, 0, 0, 0, 0), (.dup, 0, 0, 0, 0), (.getfield 192, 12, 22, 921, 0), (.iconst 1, 0, 0, 0, (nI 1)), (.iadd, 0, 0, 0, 0), (.putfield 192, 12, 22, 921, 0)] (pc' := 172) (by decide +kernel) (lv' := [some (.ref 117), some (.int ((tr_rwS I L).1)), some (.int (nI 0)), some (.int (nI 1))]) (st' := []) (I' := (tq_u (tq_u (tq_u (I_X12_here ((tr_rwS I L).2) L) 117 24 (nI 0)) 117 21 ((I_X12_here ((tr_rwS I L).2) L) 117 21)) 117 22 (((tq_u (tq_u (I_X12_here ((tr_rwS I L).2) L) 117 24 (nI 0)) 117 21 ((I_X12_here ((tr_rwS I L).2) L) 117 21)) 117 22) + (nI 1)))) (J' := J) rfl ?_
                  rw [show ((tq_u (tq_u (I_X12_here ((tr_rwS I L).2) L) 117 24 (nI 0)) 117 21 ((I_X12_here ((tr_rwS I L).2) L) 117 21)) 117 22) = ((I_X12_here ((tr_rwS I L).2) L) 117 22) from by simp (disch := decide) only [tq_u_slot]]
                  refine EV_blk (own := 12) C rfl [(.aload_n 0, 0, 0, 0, 0), (.dup, 0, 0, 0, 0), (.getfield 182, 12, 19, 918, 0), (.aload_n 0, 0, 0, 0, 0), (.getfield 205, 12, 24, 923, 0)] (pc' := 181) (by decide +kernel) (lv' := [some (.ref 117), some (.int ((tr_rwS I L).1)), some (.int (nI 0)), some (.int (nI 1))]) (st' := [.int ((tq_u (tq_u (tq_u (I_X12_here ((tr_rwS I L).2) L) 117 24 (nI 0)) 117 21 ((I_X12_here ((tr_rwS I L).2) L) 117 21)) 117 22 (((I_X12_here ((tr_rwS I L).2) L) 117 22) + (nI 1))) 117 24), .int ((tq_u (tq_u (tq_u (I_X12_here ((tr_rwS I L).2) L) 117 24 (nI 0)) 117 21 ((I_X12_here ((tr_rwS I L).2) L) 117 21)) 117 22 (((I_X12_here ((tr_rwS I L).2) L) 117 22) + (nI 1))) 117 19), .ref 117]) (I' := (tq_u (tq_u (tq_u (I_X12_here ((tr_rwS I L).2) L) 117 24 (nI 0)) 117 21 ((I_X12_here ((tr_rwS I L).2) L) 117 21)) 117 22 (((I_X12_here ((tr_rwS I L).2) L) 117 22) + (nI 1)))) (J' := J) rfl ?_
                  refine EV_ste (st' := [.int (nI 0), .int ((tq_u (tq_u (tq_u (I_X12_here ((tr_rwS I L).2) L) 117 24 (nI 0)) 117 21 ((I_X12_here ((tr_rwS I L).2) L) 117 21)) 117 22 (((I_X12_here ((tr_rwS I L).2) L) 117 22) + (nI 1))) 117 19), .ref 117]) (by simp (disch := decide) only [tq_u_same, tq_u_slot]) ?_
                  refine EV_if_eq (off := 11) (tgt := 192) C (by decide +kernel) (by decide) (fun h12 => ?_) (fun h12 => ?_)
                  · skip
                    refine EV_blk (own := 12) C rfl [(.iconst 0, 0, 0, 0, (nI 0)), (.iadd, 0, 0, 0, 0), (.putfield 182, 12, 19, 918, 0)] (pc' := 197) (by decide +kernel) (lv' := [some (.ref 117), some (.int ((tr_rwS I L).1)), some (.int (nI 0)), some (.int (nI 1))]) (st' := []) (I' := (tq_u (tq_u (tq_u (tq_u (I_X12_here ((tr_rwS I L).2) L) 117 24 (nI 0)) 117 21 ((I_X12_here ((tr_rwS I L).2) L) 117 21)) 117 22 (((I_X12_here ((tr_rwS I L).2) L) 117 22) + (nI 1))) 117 19 (((tq_u (tq_u (tq_u (I_X12_here ((tr_rwS I L).2) L) 117 24 (nI 0)) 117 21 ((I_X12_here ((tr_rwS I L).2) L) 117 21)) 117 22 (((I_X12_here ((tr_rwS I L).2) L) 117 22) + (nI 1))) 117 19) + (nI 0)))) (J' := J) rfl ?_
                    rw [show ((tq_u (tq_u (tq_u (I_X12_here ((tr_rwS I L).2) L) 117 24 (nI 0)) 117 21 ((I_X12_here ((tr_rwS I L).2) L) 117 21)) 117 22 (((I_X12_here ((tr_rwS I L).2) L) 117 22) + (nI 1))) 117 19) = ((I_X12_here ((tr_rwS I L).2) L) 117 19) from by simp (disch := decide) only [tq_u_slot]]
                    refine EV_blk (own := 12) C rfl [(.aload_n 0, 0, 0, 0, 0), (.getfield 205, 12, 24, 923, 0)] (pc' := 201) (by decide +kernel) (lv' := [some (.ref 117), some (.int ((tr_rwS I L).1)), some (.int (nI 0)), some (.int (nI 1))]) (st' := [.int ((tq_u (tq_u (tq_u (tq_u (I_X12_here ((tr_rwS I L).2) L) 117 24 (nI 0)) 117 21 ((I_X12_here ((tr_rwS I L).2) L) 117 21)) 117 22 (((I_X12_here ((tr_rwS I L).2) L) 117 22) + (nI 1))) 117 19 (((I_X12_here ((tr_rwS I L).2) L) 117 19) + (nI 0))) 117 24)]) (I' := (tq_u (tq_u (tq_u (tq_u (I_X12_here ((tr_rwS I L).2) L) 117 24 (nI 0)) 117 21 ((I_X12_here ((tr_rwS I L).2) L) 117 21)) 117 22 (((I_X12_here ((tr_rwS I L).2) L) 117 22) + (nI 1))) 117 19 (((I_X12_here ((tr_rwS I L).2) L) 117 19) + (nI 0)))) (J' := J) rfl ?_
                    refine EV_ste (st' := [.int (nI 0)]) (by simp (disch := decide) only [tq_u_same, tq_u_slot]) ?_
                    refine EV_if_eq (off := 11) (tgt := 212) C (by decide +kernel) (by decide) (fun h13 => ?_) (fun h13 => ?_)
                    · skip
                      refine EV_blk (own := 12) C rfl [(.iconst 0, 0, 0, 0, (nI 0))] (pc' := 213) (by decide +kernel) (lv' := [some (.ref 117), some (.int ((tr_rwS I L).1)), some (.int (nI 0)), some (.int (nI 1))]) (st' := [.int (nI 0)]) (I' := (tq_u (tq_u (tq_u (tq_u (I_X12_here ((tr_rwS I L).2) L) 117 24 (nI 0)) 117 21 ((I_X12_here ((tr_rwS I L).2) L) 117 21)) 117 22 (((I_X12_here ((tr_rwS I L).2) L) 117 22) + (nI 1))) 117 19 (((I_X12_here ((tr_rwS I L).2) L) 117 19) + (nI 0)))) (J' := J) rfl ?_
                      exact EV_zret C hZ rfl (by decide) (by decide +kernel) (Nat.le_refl _) (Nat.le_refl _) ⟨tq_some (by simp only [r_X12_readsRow, if_neg h1, if_neg h2, if_neg hrow, if_pos h3, if_neg h8, if_pos h9, if_pos h10, if_neg h11, if_pos h12, if_pos h13]), rfl, rfl, by simp only [I_X12_readsRow, if_neg h1, if_neg h2, if_neg hrow, if_pos h3, if_neg h8, if_pos h9, if_pos h10, if_neg h11, if_pos h12, if_pos h13], rfl⟩
                    · skip
                      exact absurd (by decide) h13
                  · skip
                    exact absurd (by decide) h12
                · skip
                  exact absurd (by rw [tq_u_slot (by decide)] at h11; exact h11) hrow
              · skip
                refine EV_blk (own := 12) C rfl [(.iconst 1, 0, 0, 0, (nI 1)), (.goto 4, 0, 0, 0, 0)] (pc' := 137) (by decide +kernel) (lv' := [some (.ref 117), some (.int ((tr_rwS I L).1)), some (.int (nI 0)), some (.int (nI 1))]) (st' := [.int (nI 1), .ref 117]) (I' := (I_X12_here ((tr_rwS I L).2) L)) (J' := J) rfl ?_
                refine EV_puti (own := 12) (idx := 205) (c := 12) (j := 24) (pl := 923) C rfl (Or.inl (by decide)) (by decide +kernel) rfl rfl (Or.inr ⟨rfl, by decide⟩) ?_
                refine EV_blk (own := 12) C rfl [(.aload_n 0, 0, 0, 0, 0), (.aload_n 0, 0, 0, 0, 0), (.getfield 192, 12, 22, 921, 0)] (pc' := 145) (by decide +kernel) (lv' := [some (.ref 117), some (.int ((tr_rwS I L).1)), some (.int (nI 0)), some (.int (nI 1))]) (st' := [.int ((tq_u (I_X12_here ((tr_rwS I L).2) L) 117 24 (nI 1)) 117 22), .ref 117]) (I' := (tq_u (I_X12_here ((tr_rwS I L).2) L) 117 24 (nI 1))) (J' := J) rfl ?_
                refine EV_if_ne (off := 10) (tgt := 155) C (by decide +kernel) (by decide) (fun h14 => ?_) (fun h14 => ?_)
                · skip
                  refine EV_blk (own := 12) C rfl [(.aload_n 0, 0, 0, 0, 0), (.getfield 195, 12, 21, 920, 0), (.putfield 195, 12, 21, 920, 0)] (pc' := 162) (by decide +kernel) (lv' := [some (.ref 117), some (.int ((tr_rwS I L).1)), some (.int (nI 0)), some (.int (nI 1))]) (st' := []) (I' := (tq_u (tq_u (I_X12_here ((tr_rwS I L).2) L) 117 24 (nI 1)) 117 21 ((tq_u (I_X12_here ((tr_rwS I L).2) L) 117 24 (nI 1)) 117 21))) (J' := J) rfl ?_
                  rw [show ((tq_u (I_X12_here ((tr_rwS I L).2) L) 117 24 (nI 1)) 117 21) = ((I_X12_here ((tr_rwS I L).2) L) 117 21) from by simp (disch := decide) only [tq_u_slot]]
                  refine EV_blk (own := 12) C rfl [(.aload_n 0, 0, 0, 0, 0), (.dup, 0, 0, 0, 0), (.getfield 192, 12, 22, 921, 0), (.iconst 1, 0, 0, 0, (nI 1)), (.iadd, 0, 0, 0, 0), (.putfield 192, 12, 22, 921, 0)] (pc' := 172) (by decide +kernel) (lv' := [some (.ref 117), some (.int ((tr_rwS I L).1)), some (.int (nI 0)), some (.int (nI 1))]) (st' := []) (I' := (tq_u (tq_u (tq_u (I_X12_here ((tr_rwS I L).2) L) 117 24 (nI 1)) 117 21 ((I_X12_here ((tr_rwS I L).2) L) 117 21)) 117 22 (((tq_u (tq_u (I_X12_here ((tr_rwS I L).2) L) 117 24 (nI 1)) 117 21 ((I_X12_here ((tr_rwS I L).2) L) 117 21)) 117 22) + (nI 1)))) (J' := J) rfl ?_
                  rw [show ((tq_u (tq_u (I_X12_here ((tr_rwS I L).2) L) 117 24 (nI 1)) 117 21 ((I_X12_here ((tr_rwS I L).2) L) 117 21)) 117 22) = ((I_X12_here ((tr_rwS I L).2) L) 117 22) from by simp (disch := decide) only [tq_u_slot]]
                  refine EV_blk (own := 12) C rfl [(.aload_n 0, 0, 0, 0, 0), (.dup, 0, 0, 0, 0), (.getfield 182, 12, 19, 918, 0), (.aload_n 0, 0, 0, 0, 0), (.getfield 205, 12, 24, 923, 0)] (pc' := 181) (by decide +kernel) (lv' := [some (.ref 117), some (.int ((tr_rwS I L).1)), some (.int (nI 0)), some (.int (nI 1))]) (st' := [.int ((tq_u (tq_u (tq_u (I_X12_here ((tr_rwS I L).2) L) 117 24 (nI 1)) 117 21 ((I_X12_here ((tr_rwS I L).2) L) 117 21)) 117 22 (((I_X12_here ((tr_rwS I L).2) L) 117 22) + (nI 1))) 117 24), .int ((tq_u (tq_u (tq_u (I_X12_here ((tr_rwS I L).2) L) 117 24 (nI 1)) 117 21 ((I_X12_here ((tr_rwS I L).2) L) 117 21)) 117 22 (((I_X12_here ((tr_rwS I L).2) L) 117 22) + (nI 1))) 117 19), .ref 117]) (I' := (tq_u (tq_u (tq_u (I_X12_here ((tr_rwS I L).2) L) 117 24 (nI 1)) 117 21 ((I_X12_here ((tr_rwS I L).2) L) 117 21)) 117 22 (((I_X12_here ((tr_rwS I L).2) L) 117 22) + (nI 1)))) (J' := J) rfl ?_
                  refine EV_ste (st' := [.int (nI 1), .int ((tq_u (tq_u (tq_u (I_X12_here ((tr_rwS I L).2) L) 117 24 (nI 1)) 117 21 ((I_X12_here ((tr_rwS I L).2) L) 117 21)) 117 22 (((I_X12_here ((tr_rwS I L).2) L) 117 22) + (nI 1))) 117 19), .ref 117]) (by simp (disch := decide) only [tq_u_same, tq_u_slot]) ?_
                  refine EV_if_eq (off := 11) (tgt := 192) C (by decide +kernel) (by decide) (fun h15 => ?_) (fun h15 => ?_)
                  · skip
                    exact absurd h15 (by decide)
                  · skip
                    refine EV_blk (own := 12) C rfl [(.iload_n 2, 0, 0, 0, 0)] (pc' := 185) (by decide +kernel) (lv' := [some (.ref 117), some (.int ((tr_rwS I L).1)), some (.int (nI 0)), some (.int (nI 1))]) (st' := [.int (nI 0), .int ((tq_u (tq_u (tq_u (I_X12_here ((tr_rwS I L).2) L) 117 24 (nI 1)) 117 21 ((I_X12_here ((tr_rwS I L).2) L) 117 21)) 117 22 (((I_X12_here ((tr_rwS I L).2) L) 117 22) + (nI 1))) 117 19), .ref 117]) (I' := (tq_u (tq_u (tq_u (I_X12_here ((tr_rwS I L).2) L) 117 24 (nI 1)) 117 21 ((I_X12_here ((tr_rwS I L).2) L) 117 21)) 117 22 (((I_X12_here ((tr_rwS I L).2) L) 117 22) + (nI 1)))) (J' := J) rfl ?_
                    refine EV_if_ne (off := 7) (tgt := 192) C (by decide +kernel) (by decide) (fun h16 => ?_) (fun h16 => ?_)
                    · skip
                      exact absurd (by decide) h16
                    · skip
                      refine EV_blk (own := 12) C rfl [(.iconst 1, 0, 0, 0, (nI 1)), (.goto 4, 0, 0, 0, 0), (.iadd, 0, 0, 0, 0), (.putfield 182, 12, 19, 918, 0)] (pc' := 197) (by decide +kernel) (lv' := [some (.ref 117), some (.int ((tr_rwS I L).1)), some (.int (nI 0)), some (.int (nI 1))]) (st' := []) (I' := (tq_u (tq_u (tq_u (tq_u (I_X12_here ((tr_rwS I L).2) L) 117 24 (nI 1)) 117 21 ((I_X12_here ((tr_rwS I L).2) L) 117 21)) 117 22 (((I_X12_here ((tr_rwS I L).2) L) 117 22) + (nI 1))) 117 19 (((tq_u (tq_u (tq_u (I_X12_here ((tr_rwS I L).2) L) 117 24 (nI 1)) 117 21 ((I_X12_here ((tr_rwS I L).2) L) 117 21)) 117 22 (((I_X12_here ((tr_rwS I L).2) L) 117 22) + (nI 1))) 117 19) + (nI 1)))) (J' := J) rfl ?_
                      rw [show ((tq_u (tq_u (tq_u (I_X12_here ((tr_rwS I L).2) L) 117 24 (nI 1)) 117 21 ((I_X12_here ((tr_rwS I L).2) L) 117 21)) 117 22 (((I_X12_here ((tr_rwS I L).2) L) 117 22) + (nI 1))) 117 19) = ((I_X12_here ((tr_rwS I L).2) L) 117 19) from by simp (disch := decide) only [tq_u_slot]]
                      refine EV_blk (own := 12) C rfl [(.aload_n 0, 0, 0, 0, 0), (.getfield 205, 12, 24, 923, 0)] (pc' := 201) (by decide +kernel) (lv' := [some (.ref 117), some (.int ((tr_rwS I L).1)), some (.int (nI 0)), some (.int (nI 1))]) (st' := [.int ((tq_u (tq_u (tq_u (tq_u (I_X12_here ((tr_rwS I L).2) L) 117 24 (nI 1)) 117 21 ((I_X12_here ((tr_rwS I L).2) L) 117 21)) 117 22 (((I_X12_here ((tr_rwS I L).2) L) 117 22) + (nI 1))) 117 19 (((I_X12_here ((tr_rwS I L).2) L) 117 19) + (nI 1))) 117 24)]) (I' := (tq_u (tq_u (tq_u (tq_u (I_X12_here ((tr_rwS I L).2) L) 117 24 (nI 1)) 117 21 ((I_X12_here ((tr_rwS I L).2) L) 117 21)) 117 22 (((I_X12_here ((tr_rwS I L).2) L) 117 22) + (nI 1))) 117 19 (((I_X12_here ((tr_rwS I L).2) L) 117 19) + (nI 1)))) (J' := J) rfl ?_
                      refine EV_ste (st' := [.int (nI 1)]) (by simp (disch := decide) only [tq_u_same, tq_u_slot]) ?_
                      refine EV_if_eq (off := 11) (tgt := 212) C (by decide +kernel) (by decide) (fun h17 => ?_) (fun h17 => ?_)
                      · skip
                        exact absurd h17 (by decide)
                      · skip
                        refine EV_blk (own := 12) C rfl [(.iload_n 2, 0, 0, 0, 0)] (pc' := 205) (by decide +kernel) (lv' := [some (.ref 117), some (.int ((tr_rwS I L).1)), some (.int (nI 0)), some (.int (nI 1))]) (st' := [.int (nI 0)]) (I' := (tq_u (tq_u (tq_u (tq_u (I_X12_here ((tr_rwS I L).2) L) 117 24 (nI 1)) 117 21 ((I_X12_here ((tr_rwS I L).2) L) 117 21)) 117 22 (((I_X12_here ((tr_rwS I L).2) L) 117 22) + (nI 1))) 117 19 (((I_X12_here ((tr_rwS I L).2) L) 117 19) + (nI 1)))) (J' := J) rfl ?_
                        refine EV_if_ne (off := 7) (tgt := 212) C (by decide +kernel) (by decide) (fun h18 => ?_) (fun h18 => ?_)
                        · skip
                          exact absurd (by decide) h18
                        · skip
                          refine EV_blk (own := 12) C rfl [(.iconst 1, 0, 0, 0, (nI 1)), (.goto 4, 0, 0, 0, 0)] (pc' := 213) (by decide +kernel) (lv' := [some (.ref 117), some (.int ((tr_rwS I L).1)), some (.int (nI 0)), some (.int (nI 1))]) (st' := [.int (nI 1)]) (I' := (tq_u (tq_u (tq_u (tq_u (I_X12_here ((tr_rwS I L).2) L) 117 24 (nI 1)) 117 21 ((I_X12_here ((tr_rwS I L).2) L) 117 21)) 117 22 (((I_X12_here ((tr_rwS I L).2) L) 117 22) + (nI 1))) 117 19 (((I_X12_here ((tr_rwS I L).2) L) 117 19) + (nI 1)))) (J' := J) rfl ?_
                          exact EV_zret C hZ rfl (by decide) (by decide +kernel) (Nat.le_refl _) (Nat.le_refl _) ⟨tq_some (by simp only [r_X12_readsRow, if_neg h1, if_neg h2, if_neg hrow, if_pos h3, if_neg h8, if_pos h9, if_neg h10, if_neg h14, if_neg h15, if_pos h16, if_neg h17, if_pos h18]), rfl, rfl, by simp only [I_X12_readsRow, if_neg h1, if_neg h2, if_neg hrow, if_pos h3, if_neg h8, if_pos h9, if_neg h10, if_neg h14, if_neg h15, if_pos h16, if_neg h17, if_pos h18], rfl⟩
                · skip
                  exact absurd (by rw [tq_u_slot (by decide)] at h14; exact h14) hrow
            · skip
              exact absurd (by decide) h9
      · skip
        refine EV_blk (own := 12) C rfl [(.aload_n 0, 0, 0, 0, 0), (.getfield 198, 12, 23, 922, 0), (.iconst 1, 0, 0, 0, (nI 1))] (pc' := 76) (by decide +kernel) (lv' := [some (.ref 117), some (.int ((tr_rwS I L).1)), some (.int (nI 0)), none]) (st' := [.int (nI 1), .int ((I_X12_here ((tr_rwS I L).2) L) 117 23)]) (I' := (I_X12_here ((tr_rwS I L).2) L)) (J' := J) rfl ?_
        refine EV_icmp_le (off := 7) (tgt := 83) C (by decide +kernel) (by decide) (fun h19 => ?_) (fun h19 => ?_)
        · skip
          refine EV_blk (own := 12) C rfl [(.iconst 0, 0, 0, 0, (nI 0)), (.goto 19, 0, 0, 0, 0), (.istore_n 3, 0, 0, 0, 0), (.aload_n 0, 0, 0, 0, 0), (.iload_n 3, 0, 0, 0, 0)] (pc' := 106) (by decide +kernel) (lv' := [some (.ref 117), some (.int ((tr_rwS I L).1)), some (.int (nI 0)), some (.int (nI 0))]) (st' := [.int (nI 0), .ref 117]) (I' := (I_X12_here ((tr_rwS I L).2) L)) (J' := J) rfl ?_
          refine EV_if_eq (off := 30) (tgt := 136) C (by decide +kernel) (by decide) (fun h20 => ?_) (fun h20 => ?_)
          · skip
            refine EV_blk (own := 12) C rfl [(.iconst 0, 0, 0, 0, (nI 0))] (pc' := 137) (by decide +kernel) (lv' := [some (.ref 117), some (.int ((tr_rwS I L).1)), some (.int (nI 0)), some (.int (nI 0))]) (st' := [.int (nI 0), .ref 117]) (I' := (I_X12_here ((tr_rwS I L).2) L)) (J' := J) rfl ?_
            refine EV_puti (own := 12) (idx := 205) (c := 12) (j := 24) (pl := 923) C rfl (Or.inl (by decide)) (by decide +kernel) rfl rfl (Or.inr ⟨rfl, by decide⟩) ?_
            refine EV_blk (own := 12) C rfl [(.aload_n 0, 0, 0, 0, 0), (.aload_n 0, 0, 0, 0, 0), (.getfield 192, 12, 22, 921, 0)] (pc' := 145) (by decide +kernel) (lv' := [some (.ref 117), some (.int ((tr_rwS I L).1)), some (.int (nI 0)), some (.int (nI 0))]) (st' := [.int ((tq_u (I_X12_here ((tr_rwS I L).2) L) 117 24 (nI 0)) 117 22), .ref 117]) (I' := (tq_u (I_X12_here ((tr_rwS I L).2) L) 117 24 (nI 0))) (J' := J) rfl ?_
            refine EV_if_ne (off := 10) (tgt := 155) C (by decide +kernel) (by decide) (fun h21 => ?_) (fun h21 => ?_)
            · skip
              exact absurd (by rw [tq_u_slot (by decide)]; exact hrow) h21
            · skip
              refine EV_blk (own := 12) C rfl [(.aload_n 0, 0, 0, 0, 0), (.getfield 198, 12, 23, 922, 0), (.goto 7, 0, 0, 0, 0), (.putfield 195, 12, 21, 920, 0)] (pc' := 162) (by decide +kernel) (lv' := [some (.ref 117), some (.int ((tr_rwS I L).1)), some (.int (nI 0)), some (.int (nI 0))]) (st' := []) (I' := (tq_u (tq_u (I_X12_here ((tr_rwS I L).2) L) 117 24 (nI 0)) 117 21 ((tq_u (I_X12_here ((tr_rwS I L).2) L) 117 24 (nI 0)) 117 23))) (J' := J) rfl ?_
              rw [show ((tq_u (I_X12_here ((tr_rwS I L).2) L) 117 24 (nI 0)) 117 23) = ((I_X12_here ((tr_rwS I L).2) L) 117 23) from by simp (disch := decide) only [tq_u_slot]]
              refine EV_blk (own := 12) C rfl [(.aload_n 0, 0, 0, 0, 0), (.dup, 0, 0, 0, 0), (.getfield 192, 12, 22, 921, 0), (.iconst 1, 0, 0, 0, (nI 1)), (.iadd, 0, 0, 0, 0), (.putfield 192, 12, 22, 921, 0)] (pc' := 172) (by decide +kernel) (lv' := [some (.ref 117), some (.int ((tr_rwS I L).1)), some (.int (nI 0)), some (.int (nI 0))]) (st' := []) (I' := (tq_u (tq_u (tq_u (I_X12_here ((tr_rwS I L).2) L) 117 24 (nI 0)) 117 21 ((I_X12_here ((tr_rwS I L).2) L) 117 23)) 117 22 (((tq_u (tq_u (I_X12_here ((tr_rwS I L).2) L) 117 24 (nI 0)) 117 21 ((I_X12_here ((tr_rwS I L).2) L) 117 23)) 117 22) + (nI 1)))) (J' := J) rfl ?_
              rw [show ((tq_u (tq_u (I_X12_here ((tr_rwS I L).2) L) 117 24 (nI 0)) 117 21 ((I_X12_here ((tr_rwS I L).2) L) 117 23)) 117 22) = ((I_X12_here ((tr_rwS I L).2) L) 117 22) from by simp (disch := decide) only [tq_u_slot]]
              refine EV_blk (own := 12) C rfl [(.aload_n 0, 0, 0, 0, 0), (.dup, 0, 0, 0, 0), (.getfield 182, 12, 19, 918, 0), (.aload_n 0, 0, 0, 0, 0), (.getfield 205, 12, 24, 923, 0)] (pc' := 181) (by decide +kernel) (lv' := [some (.ref 117), some (.int ((tr_rwS I L).1)), some (.int (nI 0)), some (.int (nI 0))]) (st' := [.int ((tq_u (tq_u (tq_u (I_X12_here ((tr_rwS I L).2) L) 117 24 (nI 0)) 117 21 ((I_X12_here ((tr_rwS I L).2) L) 117 23)) 117 22 (((I_X12_here ((tr_rwS I L).2) L) 117 22) + (nI 1))) 117 24), .int ((tq_u (tq_u (tq_u (I_X12_here ((tr_rwS I L).2) L) 117 24 (nI 0)) 117 21 ((I_X12_here ((tr_rwS I L).2) L) 117 23)) 117 22 (((I_X12_here ((tr_rwS I L).2) L) 117 22) + (nI 1))) 117 19), .ref 117]) (I' := (tq_u (tq_u (tq_u (I_X12_here ((tr_rwS I L).2) L) 117 24 (nI 0)) 117 21 ((I_X12_here ((tr_rwS I L).2) L) 117 23)) 117 22 (((I_X12_here ((tr_rwS I L).2) L) 117 22) + (nI 1)))) (J' := J) rfl ?_
              refine EV_ste (st' := [.int (nI 0), .int ((tq_u (tq_u (tq_u (I_X12_here ((tr_rwS I L).2) L) 117 24 (nI 0)) 117 21 ((I_X12_here ((tr_rwS I L).2) L) 117 23)) 117 22 (((I_X12_here ((tr_rwS I L).2) L) 117 22) + (nI 1))) 117 19), .ref 117]) (by simp (disch := decide) only [tq_u_same, tq_u_slot]) ?_
              refine EV_if_eq (off := 11) (tgt := 192) C (by decide +kernel) (by decide) (fun h22 => ?_) (fun h22 => ?_)
              · skip
                refine EV_blk (own := 12) C rfl [(.iconst 0, 0, 0, 0, (nI 0)), (.iadd, 0, 0, 0, 0), (.putfield 182, 12, 19, 918, 0)] (pc' := 197) (by decide +kernel) (lv' := [some (.ref 117), some (.int ((tr_rwS I L).1)), some (.int (nI 0)), some (.int (nI 0))]) (st' := []) (I' := (tq_u (tq_u (tq_u (tq_u (I_X12_here ((tr_rwS I L).2) L) 117 24 (nI 0)) 117 21 ((I_X12_here ((tr_rwS I L).2) L) 117 23)) 117 22 (((I_X12_here ((tr_rwS I L).2) L) 117 22) + (nI 1))) 117 19 (((tq_u (tq_u (tq_u (I_X12_here ((tr_rwS I L).2) L) 117 24 (nI 0)) 117 21 ((I_X12_here ((tr_rwS I L).2) L) 117 23)) 117 22 (((I_X12_here ((tr_rwS I L).2) L) 117 22) + (nI 1))) 117 19) + (nI 0)))) (J' := J) rfl ?_
                rw [show ((tq_u (tq_u (tq_u (I_X12_here ((tr_rwS I L).2) L) 117 24 (nI 0)) 117 21 ((I_X12_here ((tr_rwS I L).2) L) 117 23)) 117 22 (((I_X12_here ((tr_rwS I L).2) L) 117 22) + (nI 1))) 117 19) = ((I_X12_here ((tr_rwS I L).2) L) 117 19) from by simp (disch := decide) only [tq_u_slot]]
                refine EV_blk (own := 12) C rfl [(.aload_n 0, 0, 0, 0, 0), (.getfield 205, 12, 24, 923, 0)] (pc' := 201) (by decide +kernel) (lv' := [some (.ref 117), some (.int ((tr_rwS I L).1)), some (.int (nI 0)), some (.int (nI 0))]) (st' := [.int ((tq_u (tq_u (tq_u (tq_u (I_X12_here ((tr_rwS I L).2) L) 117 24 (nI 0)) 117 21 ((I_X12_here ((tr_rwS I L).2) L) 117 23)) 117 22 (((I_X12_here ((tr_rwS I L).2) L) 117 22) + (nI 1))) 117 19 (((I_X12_here ((tr_rwS I L).2) L) 117 19) + (nI 0))) 117 24)]) (I' := (tq_u (tq_u (tq_u (tq_u (I_X12_here ((tr_rwS I L).2) L) 117 24 (nI 0)) 117 21 ((I_X12_here ((tr_rwS I L).2) L) 117 23)) 117 22 (((I_X12_here ((tr_rwS I L).2) L) 117 22) + (nI 1))) 117 19 (((I_X12_here ((tr_rwS I L).2) L) 117 19) + (nI 0)))) (J' := J) rfl ?_
                refine EV_ste (st' := [.int (nI 0)]) (by simp (disch := decide) only [tq_u_same, tq_u_slot]) ?_
                refine EV_if_eq (off := 11) (tgt := 212) C (by decide +kernel) (by decide) (fun h23 => ?_) (fun h23 => ?_)
                · skip
                  refine EV_blk (own := 12) C rfl [(.iconst 0, 0, 0, 0, (nI 0))] (pc' := 213) (by decide +kernel) (lv' := [some (.ref 117), some (.int ((tr_rwS I L).1)), some (.int (nI 0)), some (.int (nI 0))]) (st' := [.int (nI 0)]) (I' := (tq_u (tq_u (tq_u (tq_u (I_X12_here ((tr_rwS I L).2) L) 117 24 (nI 0)) 117 21 ((I_X12_here ((tr_rwS I L).2) L) 117 23)) 117 22 (((I_X12_here ((tr_rwS I L).2) L) 117 22) + (nI 1))) 117 19 (((I_X12_here ((tr_rwS I L).2) L) 117 19) + (nI 0)))) (J' := J) rfl ?_
                  exact EV_zret C hZ rfl (by decide) (by decide +kernel) (Nat.le_refl _) (Nat.le_refl _) ⟨tq_some (by simp only [r_X12_readsRow, if_neg h1, if_neg h2, if_pos hrow, if_pos h19, if_pos h20, if_pos h21, if_pos h22, if_pos h23]), rfl, rfl, by simp only [I_X12_readsRow, if_neg h1, if_neg h2, if_pos hrow, if_pos h19, if_pos h20, if_pos h21, if_pos h22, if_pos h23], rfl⟩
                · skip
                  exact absurd (by decide) h23
              · skip
                exact absurd (by decide) h22
          · skip
            exact absurd (by decide) h20
        · skip
          refine EV_blk (own := 12) C rfl [(.iconst 1, 0, 0, 0, (nI 1)), (.goto 23, 0, 0, 0, 0), (.istore_n 3, 0, 0, 0, 0), (.aload_n 0, 0, 0, 0, 0), (.iload_n 3, 0, 0, 0, 0)] (pc' := 106) (by decide +kernel) (lv' := [some (.ref 117), some (.int ((tr_rwS I L).1)), some (.int (nI 0)), some (.int (nI 1))]) (st' := [.int (nI 1), .ref 117]) (I' := (I_X12_here ((tr_rwS I L).2) L)) (J' := J) rfl ?_
          refine EV_if_eq (off := 30) (tgt := 136) C (by decide +kernel) (by decide) (fun h24 => ?_) (fun h24 => ?_)
          · skip
            exact absurd h24 (by decide)
          · skip
            refine EV_blk (own := 12) C rfl [(.iload_n 2, 0, 0, 0, 0)] (pc' := 110) (by decide +kernel) (lv' := [some (.ref 117), some (.int ((tr_rwS I L).1)), some (.int (nI 0)), some (.int (nI 1))]) (st' := [.int (nI 0), .ref 117]) (I' := (I_X12_here ((tr_rwS I L).2) L)) (J' := J) rfl ?_
            refine EV_if_eq (off := 13) (tgt := 123) C (by decide +kernel) (by decide) (fun h25 => ?_) (fun h25 => ?_)
            · skip
              refine EV_blk (own := 12) C rfl [(.aload_n 0, 0, 0, 0, 0), (.getfield 192, 12, 22, 921, 0), (.bipush 10, 0, 0, 0, (nI 10))] (pc' := 129) (by decide +kernel) (lv' := [some (.ref 117), some (.int ((tr_rwS I L).1)), some (.int (nI 0)), some (.int (nI 1))]) (st' := [.int (nI 10), .int ((I_X12_here ((tr_rwS I L).2) L) 117 22), .ref 117]) (I' := (I_X12_here ((tr_rwS I L).2) L)) (J' := J) rfl ?_
              refine EV_icmp_ge (off := 7) (tgt := 136) C (by decide +kernel) (by decide) (fun h26 => ?_) (fun h26 => ?_)
              · skip
                refine EV_blk (own := 12) C rfl [(.iconst 0, 0, 0, 0, (nI 0))] (pc' := 137) (by decide +kernel) (lv' := [some (.ref 117), some (.int ((tr_rwS I L).1)), some (.int (nI 0)), some (.int (nI 1))]) (st' := [.int (nI 0), .ref 117]) (I' := (I_X12_here ((tr_rwS I L).2) L)) (J' := J) rfl ?_
                refine EV_puti (own := 12) (idx := 205) (c := 12) (j := 24) (pl := 923) C rfl (Or.inl (by decide)) (by decide +kernel) rfl rfl (Or.inr ⟨rfl, by decide⟩) ?_
                refine EV_blk (own := 12) C rfl [(.aload_n 0, 0, 0, 0, 0), (.aload_n 0, 0, 0, 0, 0), (.getfield 192, 12, 22, 921, 0)] (pc' := 145) (by decide +kernel) (lv' := [some (.ref 117), some (.int ((tr_rwS I L).1)), some (.int (nI 0)), some (.int (nI 1))]) (st' := [.int ((tq_u (I_X12_here ((tr_rwS I L).2) L) 117 24 (nI 0)) 117 22), .ref 117]) (I' := (tq_u (I_X12_here ((tr_rwS I L).2) L) 117 24 (nI 0))) (J' := J) rfl ?_
                refine EV_if_ne (off := 10) (tgt := 155) C (by decide +kernel) (by decide) (fun h27 => ?_) (fun h27 => ?_)
                · skip
                  exact absurd (by rw [tq_u_slot (by decide)]; exact hrow) h27
                · skip
                  refine EV_blk (own := 12) C rfl [(.aload_n 0, 0, 0, 0, 0), (.getfield 198, 12, 23, 922, 0), (.goto 7, 0, 0, 0, 0), (.putfield 195, 12, 21, 920, 0)] (pc' := 162) (by decide +kernel) (lv' := [some (.ref 117), some (.int ((tr_rwS I L).1)), some (.int (nI 0)), some (.int (nI 1))]) (st' := []) (I' := (tq_u (tq_u (I_X12_here ((tr_rwS I L).2) L) 117 24 (nI 0)) 117 21 ((tq_u (I_X12_here ((tr_rwS I L).2) L) 117 24 (nI 0)) 117 23))) (J' := J) rfl ?_
                  rw [show ((tq_u (I_X12_here ((tr_rwS I L).2) L) 117 24 (nI 0)) 117 23) = ((I_X12_here ((tr_rwS I L).2) L) 117 23) from by simp (disch := decide) only [tq_u_slot]]
                  refine EV_blk (own := 12) C rfl [(.aload_n 0, 0, 0, 0, 0), (.dup, 0, 0, 0, 0), (.getfield 192, 12, 22, 921, 0), (.iconst 1, 0, 0, 0, (nI 1)), (.iadd, 0, 0, 0, 0), (.putfield 192, 12, 22, 921, 0)] (pc' := 172) (by decide +kernel) (lv' := [some (.ref 117), some (.int ((tr_rwS I L).1)), some (.int (nI 0)), some (.int (nI 1))]) (st' := []) (I' := (tq_u (tq_u (tq_u (I_X12_here ((tr_rwS I L).2) L) 117 24 (nI 0)) 117 21 ((I_X12_here ((tr_rwS I L).2) L) 117 23)) 117 22 (((tq_u (tq_u (I_X12_here ((tr_rwS I L).2) L) 117 24 (nI 0)) 117 21 ((I_X12_here ((tr_rwS I L).2) L) 117 23)) 117 22) + (nI 1)))) (J' := J) rfl ?_
                  rw [show ((tq_u (tq_u (I_X12_here ((tr_rwS I L).2) L) 117 24 (nI 0)) 117 21 ((I_X12_here ((tr_rwS I L).2) L) 117 23)) 117 22) = ((I_X12_here ((tr_rwS I L).2) L) 117 22) from by simp (disch := decide) only [tq_u_slot]]
                  refine EV_blk (own := 12) C rfl [(.aload_n 0, 0, 0, 0, 0), (.dup, 0, 0, 0, 0), (.getfield 182, 12, 19, 918, 0), (.aload_n 0, 0, 0, 0, 0), (.getfield 205, 12, 24, 923, 0)] (pc' := 181) (by decide +kernel) (lv' := [some (.ref 117), some (.int ((tr_rwS I L).1)), some (.int (nI 0)), some (.int (nI 1))]) (st' := [.int ((tq_u (tq_u (tq_u (I_X12_here ((tr_rwS I L).2) L) 117 24 (nI 0)) 117 21 ((I_X12_here ((tr_rwS I L).2) L) 117 23)) 117 22 (((I_X12_here ((tr_rwS I L).2) L) 117 22) + (nI 1))) 117 24), .int ((tq_u (tq_u (tq_u (I_X12_here ((tr_rwS I L).2) L) 117 24 (nI 0)) 117 21 ((I_X12_here ((tr_rwS I L).2) L) 117 23)) 117 22 (((I_X12_here ((tr_rwS I L).2) L) 117 22) + (nI 1))) 117 19), .ref 117]) (I' := (tq_u (tq_u (tq_u (I_X12_here ((tr_rwS I L).2) L) 117 24 (nI 0)) 117 21 ((I_X12_here ((tr_rwS I L).2) L) 117 23)) 117 22 (((I_X12_here ((tr_rwS I L).2) L) 117 22) + (nI 1)))) (J' := J) rfl ?_
                  refine EV_ste (st' := [.int (nI 0), .int ((tq_u (tq_u (tq_u (I_X12_here ((tr_rwS I L).2) L) 117 24 (nI 0)) 117 21 ((I_X12_here ((tr_rwS I L).2) L) 117 23)) 117 22 (((I_X12_here ((tr_rwS I L).2) L) 117 22) + (nI 1))) 117 19), .ref 117]) (by simp (disch := decide) only [tq_u_same, tq_u_slot]) ?_
                  refine EV_if_eq (off := 11) (tgt := 192) C (by decide +kernel) (by decide) (fun h28 => ?_) (fun h28 => ?_)
                  · skip
                    refine EV_blk (own := 12) C rfl [(.iconst 0, 0, 0, 0, (nI 0)), (.iadd, 0, 0, 0, 0), (.putfield 182, 12, 19, 918, 0)] (pc' := 197) (by decide +kernel) (lv' := [some (.ref 117), some (.int ((tr_rwS I L).1)), some (.int (nI 0)), some (.int (nI 1))]) (st' := []) (I' := (tq_u (tq_u (tq_u (tq_u (I_X12_here ((tr_rwS I L).2) L) 117 24 (nI 0)) 117 21 ((I_X12_here ((tr_rwS I L).2) L) 117 23)) 117 22 (((I_X12_here ((tr_rwS I L).2) L) 117 22) + (nI 1))) 117 19 (((tq_u (tq_u (tq_u (I_X12_here ((tr_rwS I L).2) L) 117 24 (nI 0)) 117 21 ((I_X12_here ((tr_rwS I L).2) L) 117 23)) 117 22 (((I_X12_here ((tr_rwS I L).2) L) 117 22) + (nI 1))) 117 19) + (nI 0)))) (J' := J) rfl ?_
                    rw [show ((tq_u (tq_u (tq_u (I_X12_here ((tr_rwS I L).2) L) 117 24 (nI 0)) 117 21 ((I_X12_here ((tr_rwS I L).2) L) 117 23)) 117 22 (((I_X12_here ((tr_rwS I L).2) L) 117 22) + (nI 1))) 117 19) = ((I_X12_here ((tr_rwS I L).2) L) 117 19) from by simp (disch := decide) only [tq_u_slot]]
                    refine EV_blk (own := 12) C rfl [(.aload_n 0, 0, 0, 0, 0), (.getfield 205, 12, 24, 923, 0)] (pc' := 201) (by decide +kernel) (lv' := [some (.ref 117), some (.int ((tr_rwS I L).1)), some (.int (nI 0)), some (.int (nI 1))]) (st' := [.int ((tq_u (tq_u (tq_u (tq_u (I_X12_here ((tr_rwS I L).2) L) 117 24 (nI 0)) 117 21 ((I_X12_here ((tr_rwS I L).2) L) 117 23)) 117 22 (((I_X12_here ((tr_rwS I L).2) L) 117 22) + (nI 1))) 117 19 (((I_X12_here ((tr_rwS I L).2) L) 117 19) + (nI 0))) 117 24)]) (I' := (tq_u (tq_u (tq_u (tq_u (I_X12_here ((tr_rwS I L).2) L) 117 24 (nI 0)) 117 21 ((I_X12_here ((tr_rwS I L).2) L) 117 23)) 117 22 (((I_X12_here ((tr_rwS I L).2) L) 117 22) + (nI 1))) 117 19 (((I_X12_here ((tr_rwS I L).2) L) 117 19) + (nI 0)))) (J' := J) rfl ?_
                    refine EV_ste (st' := [.int (nI 0)]) (by simp (disch := decide) only [tq_u_same, tq_u_slot]) ?_
                    refine EV_if_eq (off := 11) (tgt := 212) C (by decide +kernel) (by decide) (fun h29 => ?_) (fun h29 => ?_)
                    · skip
                      refine EV_blk (own := 12) C rfl [(.iconst 0, 0, 0, 0, (nI 0))] (pc' := 213) (by decide +kernel) (lv' := [some (.ref 117), some (.int ((tr_rwS I L).1)), some (.int (nI 0)), some (.int (nI 1))]) (st' := [.int (nI 0)]) (I' := (tq_u (tq_u (tq_u (tq_u (I_X12_here ((tr_rwS I L).2) L) 117 24 (nI 0)) 117 21 ((I_X12_here ((tr_rwS I L).2) L) 117 23)) 117 22 (((I_X12_here ((tr_rwS I L).2) L) 117 22) + (nI 1))) 117 19 (((I_X12_here ((tr_rwS I L).2) L) 117 19) + (nI 0)))) (J' := J) rfl ?_
                      exact EV_zret C hZ rfl (by decide) (by decide +kernel) (Nat.le_refl _) (Nat.le_refl _) ⟨tq_some (by simp only [r_X12_readsRow, if_neg h1, if_neg h2, if_pos hrow, if_neg h19, if_neg h24, if_pos h25, if_pos h26, if_pos h27, if_pos h28, if_pos h29]), rfl, rfl, by simp only [I_X12_readsRow, if_neg h1, if_neg h2, if_pos hrow, if_neg h19, if_neg h24, if_pos h25, if_pos h26, if_pos h27, if_pos h28, if_pos h29], rfl⟩
                    · skip
                      exact absurd (by decide) h29
                  · skip
                    exact absurd (by decide) h28
              · skip
                refine EV_blk (own := 12) C rfl [(.iconst 1, 0, 0, 0, (nI 1)), (.goto 4, 0, 0, 0, 0)] (pc' := 137) (by decide +kernel) (lv' := [some (.ref 117), some (.int ((tr_rwS I L).1)), some (.int (nI 0)), some (.int (nI 1))]) (st' := [.int (nI 1), .ref 117]) (I' := (I_X12_here ((tr_rwS I L).2) L)) (J' := J) rfl ?_
                refine EV_puti (own := 12) (idx := 205) (c := 12) (j := 24) (pl := 923) C rfl (Or.inl (by decide)) (by decide +kernel) rfl rfl (Or.inr ⟨rfl, by decide⟩) ?_
                refine EV_blk (own := 12) C rfl [(.aload_n 0, 0, 0, 0, 0), (.aload_n 0, 0, 0, 0, 0), (.getfield 192, 12, 22, 921, 0)] (pc' := 145) (by decide +kernel) (lv' := [some (.ref 117), some (.int ((tr_rwS I L).1)), some (.int (nI 0)), some (.int (nI 1))]) (st' := [.int ((tq_u (I_X12_here ((tr_rwS I L).2) L) 117 24 (nI 1)) 117 22), .ref 117]) (I' := (tq_u (I_X12_here ((tr_rwS I L).2) L) 117 24 (nI 1))) (J' := J) rfl ?_
                refine EV_if_ne (off := 10) (tgt := 155) C (by decide +kernel) (by decide) (fun h30 => ?_) (fun h30 => ?_)
                · skip
                  exact absurd (by rw [tq_u_slot (by decide)]; exact hrow) h30
                · skip
                  refine EV_blk (own := 12) C rfl [(.aload_n 0, 0, 0, 0, 0), (.getfield 198, 12, 23, 922, 0), (.goto 7, 0, 0, 0, 0), (.putfield 195, 12, 21, 920, 0)] (pc' := 162) (by decide +kernel) (lv' := [some (.ref 117), some (.int ((tr_rwS I L).1)), some (.int (nI 0)), some (.int (nI 1))]) (st' := []) (I' := (tq_u (tq_u (I_X12_here ((tr_rwS I L).2) L) 117 24 (nI 1)) 117 21 ((tq_u (I_X12_here ((tr_rwS I L).2) L) 117 24 (nI 1)) 117 23))) (J' := J) rfl ?_
                  rw [show ((tq_u (I_X12_here ((tr_rwS I L).2) L) 117 24 (nI 1)) 117 23) = ((I_X12_here ((tr_rwS I L).2) L) 117 23) from by simp (disch := decide) only [tq_u_slot]]
                  refine EV_blk (own := 12) C rfl [(.aload_n 0, 0, 0, 0, 0), (.dup, 0, 0, 0, 0), (.getfield 192, 12, 22, 921, 0), (.iconst 1, 0, 0, 0, (nI 1)), (.iadd, 0, 0, 0, 0), (.putfield 192, 12, 22, 921, 0)] (pc' := 172) (by decide +kernel) (lv' := [some (.ref 117), some (.int ((tr_rwS I L).1)), some (.int (nI 0)), some (.int (nI 1))]) (st' := []) (I' := (tq_u (tq_u (tq_u (I_X12_here ((tr_rwS I L).2) L) 117 24 (nI 1)) 117 21 ((I_X12_here ((tr_rwS I L).2) L) 117 23)) 117 22 (((tq_u (tq_u (I_X12_here ((tr_rwS I L).2) L) 117 24 (nI 1)) 117 21 ((I_X12_here ((tr_rwS I L).2) L) 117 23)) 117 22) + (nI 1)))) (J' := J) rfl ?_
                  rw [show ((tq_u (tq_u (I_X12_here ((tr_rwS I L).2) L) 117 24 (nI 1)) 117 21 ((I_X12_here ((tr_rwS I L).2) L) 117 23)) 117 22) = ((I_X12_here ((tr_rwS I L).2) L) 117 22) from by simp (disch := decide) only [tq_u_slot]]
                  refine EV_blk (own := 12) C rfl [(.aload_n 0, 0, 0, 0, 0), (.dup, 0, 0, 0, 0), (.getfield 182, 12, 19, 918, 0), (.aload_n 0, 0, 0, 0, 0), (.getfield 205, 12, 24, 923, 0)] (pc' := 181) (by decide +kernel) (lv' := [some (.ref 117), some (.int ((tr_rwS I L).1)), some (.int (nI 0)), some (.int (nI 1))]) (st' := [.int ((tq_u (tq_u (tq_u (I_X12_here ((tr_rwS I L).2) L) 117 24 (nI 1)) 117 21 ((I_X12_here ((tr_rwS I L).2) L) 117 23)) 117 22 (((I_X12_here ((tr_rwS I L).2) L) 117 22) + (nI 1))) 117 24), .int ((tq_u (tq_u (tq_u (I_X12_here ((tr_rwS I L).2) L) 117 24 (nI 1)) 117 21 ((I_X12_here ((tr_rwS I L).2) L) 117 23)) 117 22 (((I_X12_here ((tr_rwS I L).2) L) 117 22) + (nI 1))) 117 19), .ref 117]) (I' := (tq_u (tq_u (tq_u (I_X12_here ((tr_rwS I L).2) L) 117 24 (nI 1)) 117 21 ((I_X12_here ((tr_rwS I L).2) L) 117 23)) 117 22 (((I_X12_here ((tr_rwS I L).2) L) 117 22) + (nI 1)))) (J' := J) rfl ?_
                  refine EV_ste (st' := [.int (nI 1), .int ((tq_u (tq_u (tq_u (I_X12_here ((tr_rwS I L).2) L) 117 24 (nI 1)) 117 21 ((I_X12_here ((tr_rwS I L).2) L) 117 23)) 117 22 (((I_X12_here ((tr_rwS I L).2) L) 117 22) + (nI 1))) 117 19), .ref 117]) (by simp (disch := decide) only [tq_u_same, tq_u_slot]) ?_
                  refine EV_if_eq (off := 11) (tgt := 192) C (by decide +kernel) (by decide) (fun h31 => ?_) (fun h31 => ?_)
                  · skip
                    exact absurd h31 (by decide)
                  · skip
                    refine EV_blk (own := 12) C rfl [(.iload_n 2, 0, 0, 0, 0)] (pc' := 185) (by decide +kernel) (lv' := [some (.ref 117), some (.int ((tr_rwS I L).1)), some (.int (nI 0)), some (.int (nI 1))]) (st' := [.int (nI 0), .int ((tq_u (tq_u (tq_u (I_X12_here ((tr_rwS I L).2) L) 117 24 (nI 1)) 117 21 ((I_X12_here ((tr_rwS I L).2) L) 117 23)) 117 22 (((I_X12_here ((tr_rwS I L).2) L) 117 22) + (nI 1))) 117 19), .ref 117]) (I' := (tq_u (tq_u (tq_u (I_X12_here ((tr_rwS I L).2) L) 117 24 (nI 1)) 117 21 ((I_X12_here ((tr_rwS I L).2) L) 117 23)) 117 22 (((I_X12_here ((tr_rwS I L).2) L) 117 22) + (nI 1)))) (J' := J) rfl ?_
                    refine EV_if_ne (off := 7) (tgt := 192) C (by decide +kernel) (by decide) (fun h32 => ?_) (fun h32 => ?_)
                    · skip
                      exact absurd (by decide) h32
                    · skip
                      refine EV_blk (own := 12) C rfl [(.iconst 1, 0, 0, 0, (nI 1)), (.goto 4, 0, 0, 0, 0), (.iadd, 0, 0, 0, 0), (.putfield 182, 12, 19, 918, 0)] (pc' := 197) (by decide +kernel) (lv' := [some (.ref 117), some (.int ((tr_rwS I L).1)), some (.int (nI 0)), some (.int (nI 1))]) (st' := []) (I' := (tq_u (tq_u (tq_u (tq_u (I_X12_here ((tr_rwS I L).2) L) 117 24 (nI 1)) 117 21 ((I_X12_here ((tr_rwS I L).2) L) 117 23)) 117 22 (((I_X12_here ((tr_rwS I L).2) L) 117 22) + (nI 1))) 117 19 (((tq_u (tq_u (tq_u (I_X12_here ((tr_rwS I L).2) L) 117 24 (nI 1)) 117 21 ((I_X12_here ((tr_rwS I L).2) L) 117 23)) 117 22 (((I_X12_here ((tr_rwS I L).2) L) 117 22) + (nI 1))) 117 19) + (nI 1)))) (J' := J) rfl ?_
                      rw [show ((tq_u (tq_u (tq_u (I_X12_here ((tr_rwS I L).2) L) 117 24 (nI 1)) 117 21 ((I_X12_here ((tr_rwS I L).2) L) 117 23)) 117 22 (((I_X12_here ((tr_rwS I L).2) L) 117 22) + (nI 1))) 117 19) = ((I_X12_here ((tr_rwS I L).2) L) 117 19) from by simp (disch := decide) only [tq_u_slot]]
                      refine EV_blk (own := 12) C rfl [(.aload_n 0, 0, 0, 0, 0), (.getfield 205, 12, 24, 923, 0)] (pc' := 201) (by decide +kernel) (lv' := [some (.ref 117), some (.int ((tr_rwS I L).1)), some (.int (nI 0)), some (.int (nI 1))]) (st' := [.int ((tq_u (tq_u (tq_u (tq_u (I_X12_here ((tr_rwS I L).2) L) 117 24 (nI 1)) 117 21 ((I_X12_here ((tr_rwS I L).2) L) 117 23)) 117 22 (((I_X12_here ((tr_rwS I L).2) L) 117 22) + (nI 1))) 117 19 (((I_X12_here ((tr_rwS I L).2) L) 117 19) + (nI 1))) 117 24)]) (I' := (tq_u (tq_u (tq_u (tq_u (I_X12_here ((tr_rwS I L).2) L) 117 24 (nI 1)) 117 21 ((I_X12_here ((tr_rwS I L).2) L) 117 23)) 117 22 (((I_X12_here ((tr_rwS I L).2) L) 117 22) + (nI 1))) 117 19 (((I_X12_here ((tr_rwS I L).2) L) 117 19) + (nI 1)))) (J' := J) rfl ?_
                      refine EV_ste (st' := [.int (nI 1)]) (by simp (disch := decide) only [tq_u_same, tq_u_slot]) ?_
                      refine EV_if_eq (off := 11) (tgt := 212) C (by decide +kernel) (by decide) (fun h33 => ?_) (fun h33 => ?_)
                      · skip
                        exact absurd h33 (by decide)
                      · skip
                        refine EV_blk (own := 12) C rfl [(.iload_n 2, 0, 0, 0, 0)] (pc' := 205) (by decide +kernel) (lv' := [some (.ref 117), some (.int ((tr_rwS I L).1)), some (.int (nI 0)), some (.int (nI 1))]) (st' := [.int (nI 0)]) (I' := (tq_u (tq_u (tq_u (tq_u (I_X12_here ((tr_rwS I L).2) L) 117 24 (nI 1)) 117 21 ((I_X12_here ((tr_rwS I L).2) L) 117 23)) 117 22 (((I_X12_here ((tr_rwS I L).2) L) 117 22) + (nI 1))) 117 19 (((I_X12_here ((tr_rwS I L).2) L) 117 19) + (nI 1)))) (J' := J) rfl ?_
                        refine EV_if_ne (off := 7) (tgt := 212) C (by decide +kernel) (by decide) (fun h34 => ?_) (fun h34 => ?_)
                        · skip
                          exact absurd (by decide) h34
                        · skip
                          refine EV_blk (own := 12) C rfl [(.iconst 1, 0, 0, 0, (nI 1)), (.goto 4, 0, 0, 0, 0)] (pc' := 213) (by decide +kernel) (lv' := [some (.ref 117), some (.int ((tr_rwS I L).1)), some (.int (nI 0)), some (.int (nI 1))]) (st' := [.int (nI 1)]) (I' := (tq_u (tq_u (tq_u (tq_u (I_X12_here ((tr_rwS I L).2) L) 117 24 (nI 1)) 117 21 ((I_X12_here ((tr_rwS I L).2) L) 117 23)) 117 22 (((I_X12_here ((tr_rwS I L).2) L) 117 22) + (nI 1))) 117 19 (((I_X12_here ((tr_rwS I L).2) L) 117 19) + (nI 1)))) (J' := J) rfl ?_
                          exact EV_zret C hZ rfl (by decide) (by decide +kernel) (Nat.le_refl _) (Nat.le_refl _) ⟨tq_some (by simp only [r_X12_readsRow, if_neg h1, if_neg h2, if_pos hrow, if_neg h19, if_neg h24, if_pos h25, if_neg h26, if_pos h30, if_neg h31, if_pos h32, if_neg h33, if_pos h34]), rfl, rfl, by simp only [I_X12_readsRow, if_neg h1, if_neg h2, if_pos hrow, if_neg h19, if_neg h24, if_pos h25, if_neg h26, if_pos h30, if_neg h31, if_pos h32, if_neg h33, if_pos h34], rfl⟩
            · skip
              exact absurd (by decide) h25
    · skip
      refine EV_blk (own := 12) C rfl [(.iconst 1, 0, 0, 0, (nI 1)), (.goto 4, 0, 0, 0, 0), (.istore_n 2, 0, 0, 0, 0), (.aload_n 0, 0, 0, 0, 0), (.getfield 192, 12, 22, 921, 0)] (pc' := 68) (by decide +kernel) (lv' := [some (.ref 117), some (.int ((tr_rwS I L).1)), some (.int (nI 1)), none]) (st' := [.int ((I_X12_here ((tr_rwS I L).2) L) 117 22)]) (I' := (I_X12_here ((tr_rwS I L).2) L)) (J' := J) rfl ?_
      refine EV_if_ne (off := 19) (tgt := 87) C (by decide +kernel) (by decide) (fun hrow => ?_) (fun hrow => ?_)
      · skip
        refine EV_blk (own := 12) C rfl [(.aload_n 0, 0, 0, 0, 0), (.getfield 198, 12, 23, 922, 0), (.aload_n 0, 0, 0, 0, 0), (.getfield 195, 12, 21, 920, 0)] (pc' := 95) (by decide +kernel) (lv' := [some (.ref 117), some (.int ((tr_rwS I L).1)), some (.int (nI 1)), none]) (st' := [.int ((I_X12_here ((tr_rwS I L).2) L) 117 21), .int ((I_X12_here ((tr_rwS I L).2) L) 117 23)]) (I' := (I_X12_here ((tr_rwS I L).2) L)) (J' := J) rfl ?_
        refine EV_icmp_ne (off := 7) (tgt := 102) C (by decide +kernel) (by decide) (fun h35 => ?_) (fun h35 => ?_)
        · skip
          refine EV_blk (own := 12) C rfl [(.iconst 0, 0, 0, 0, (nI 0)), (.istore_n 3, 0, 0, 0, 0), (.aload_n 0, 0, 0, 0, 0), (.iload_n 3, 0, 0, 0, 0)] (pc' := 106) (by decide +kernel) (lv' := [some (.ref 117), some (.int ((tr_rwS I L).1)), some (.int (nI 1)), some (.int (nI 0))]) (st' := [.int (nI 0), .ref 117]) (I' := (I_X12_here ((tr_rwS I L).2) L)) (J' := J) rfl ?_
          refine EV_if_eq (off := 30) (tgt := 136) C (by decide +kernel) (by decide) (fun h36 => ?_) (fun h36 => ?_)
          · skip
            refine EV_blk (own := 12) C rfl [(.iconst 0, 0, 0, 0, (nI 0))] (pc' := 137) (by decide +kernel) (lv' := [some (.ref 117), some (.int ((tr_rwS I L).1)), some (.int (nI 1)), some (.int (nI 0))]) (st' := [.int (nI 0), .ref 117]) (I' := (I_X12_here ((tr_rwS I L).2) L)) (J' := J) rfl ?_
            refine EV_puti (own := 12) (idx := 205) (c := 12) (j := 24) (pl := 923) C rfl (Or.inl (by decide)) (by decide +kernel) rfl rfl (Or.inr ⟨rfl, by decide⟩) ?_
            refine EV_blk (own := 12) C rfl [(.aload_n 0, 0, 0, 0, 0), (.aload_n 0, 0, 0, 0, 0), (.getfield 192, 12, 22, 921, 0)] (pc' := 145) (by decide +kernel) (lv' := [some (.ref 117), some (.int ((tr_rwS I L).1)), some (.int (nI 1)), some (.int (nI 0))]) (st' := [.int ((tq_u (I_X12_here ((tr_rwS I L).2) L) 117 24 (nI 0)) 117 22), .ref 117]) (I' := (tq_u (I_X12_here ((tr_rwS I L).2) L) 117 24 (nI 0))) (J' := J) rfl ?_
            refine EV_if_ne (off := 10) (tgt := 155) C (by decide +kernel) (by decide) (fun h37 => ?_) (fun h37 => ?_)
            · skip
              refine EV_blk (own := 12) C rfl [(.aload_n 0, 0, 0, 0, 0), (.getfield 195, 12, 21, 920, 0), (.putfield 195, 12, 21, 920, 0)] (pc' := 162) (by decide +kernel) (lv' := [some (.ref 117), some (.int ((tr_rwS I L).1)), some (.int (nI 1)), some (.int (nI 0))]) (st' := []) (I' := (tq_u (tq_u (I_X12_here ((tr_rwS I L).2) L) 117 24 (nI 0)) 117 21 ((tq_u (I_X12_here ((tr_rwS I L).2) L) 117 24 (nI 0)) 117 21))) (J' := J) rfl ?_
              rw [show ((tq_u (I_X12_here ((tr_rwS I L).2) L) 117 24 (nI 0)) 117 21) = ((I_X12_here ((tr_rwS I L).2) L) 117 21) from by simp (disch := decide) only [tq_u_slot]]
              refine EV_blk (own := 12) C rfl [(.aload_n 0, 0, 0, 0, 0), (.dup, 0, 0, 0, 0), (.getfield 192, 12, 22, 921, 0), (.iconst 1, 0, 0, 0, (nI 1)), (.iadd, 0, 0, 0, 0), (.putfield 192, 12, 22, 921, 0)] (pc' := 172) (by decide +kernel) (lv' := [some (.ref 117), some (.int ((tr_rwS I L).1)), some (.int (nI 1)), some (.int (nI 0))]) (st' := []) (I' := (tq_u (tq_u (tq_u (I_X12_here ((tr_rwS I L).2) L) 117 24 (nI 0)) 117 21 ((I_X12_here ((tr_rwS I L).2) L) 117 21)) 117 22 (((tq_u (tq_u (I_X12_here ((tr_rwS I L).2) L) 117 24 (nI 0)) 117 21 ((I_X12_here ((tr_rwS I L).2) L) 117 21)) 117 22) + (nI 1)))) (J' := J) rfl ?_
              rw [show ((tq_u (tq_u (I_X12_here ((tr_rwS I L).2) L) 117 24 (nI 0)) 117 21 ((I_X12_here ((tr_rwS I L).2) L) 117 21)) 117 22) = ((I_X12_here ((tr_rwS I L).2) L) 117 22) from by simp (disch := decide) only [tq_u_slot]]
              refine EV_blk (own := 12) C rfl [(.aload_n 0, 0, 0, 0, 0), (.dup, 0, 0, 0, 0), (.getfield 182, 12, 19, 918, 0), (.aload_n 0, 0, 0, 0, 0), (.getfield 205, 12, 24, 923, 0)] (pc' := 181) (by decide +kernel) (lv' := [some (.ref 117), some (.int ((tr_rwS I L).1)), some (.int (nI 1)), some (.int (nI 0))]) (st' := [.int ((tq_u (tq_u (tq_u (I_X12_here ((tr_rwS I L).2) L) 117 24 (nI 0)) 117 21 ((I_X12_here ((tr_rwS I L).2) L) 117 21)) 117 22 (((I_X12_here ((tr_rwS I L).2) L) 117 22) + (nI 1))) 117 24), .int ((tq_u (tq_u (tq_u (I_X12_here ((tr_rwS I L).2) L) 117 24 (nI 0)) 117 21 ((I_X12_here ((tr_rwS I L).2) L) 117 21)) 117 22 (((I_X12_here ((tr_rwS I L).2) L) 117 22) + (nI 1))) 117 19), .ref 117]) (I' := (tq_u (tq_u (tq_u (I_X12_here ((tr_rwS I L).2) L) 117 24 (nI 0)) 117 21 ((I_X12_here ((tr_rwS I L).2) L) 117 21)) 117 22 (((I_X12_here ((tr_rwS I L).2) L) 117 22) + (nI 1)))) (J' := J) rfl ?_
              refine EV_ste (st' := [.int (nI 0), .int ((tq_u (tq_u (tq_u (I_X12_here ((tr_rwS I L).2) L) 117 24 (nI 0)) 117 21 ((I_X12_here ((tr_rwS I L).2) L) 117 21)) 117 22 (((I_X12_here ((tr_rwS I L).2) L) 117 22) + (nI 1))) 117 19), .ref 117]) (by simp (disch := decide) only [tq_u_same, tq_u_slot]) ?_
              refine EV_if_eq (off := 11) (tgt := 192) C (by decide +kernel) (by decide) (fun h38 => ?_) (fun h38 => ?_)
              · skip
                refine EV_blk (own := 12) C rfl [(.iconst 0, 0, 0, 0, (nI 0)), (.iadd, 0, 0, 0, 0), (.putfield 182, 12, 19, 918, 0)] (pc' := 197) (by decide +kernel) (lv' := [some (.ref 117), some (.int ((tr_rwS I L).1)), some (.int (nI 1)), some (.int (nI 0))]) (st' := []) (I' := (tq_u (tq_u (tq_u (tq_u (I_X12_here ((tr_rwS I L).2) L) 117 24 (nI 0)) 117 21 ((I_X12_here ((tr_rwS I L).2) L) 117 21)) 117 22 (((I_X12_here ((tr_rwS I L).2) L) 117 22) + (nI 1))) 117 19 (((tq_u (tq_u (tq_u (I_X12_here ((tr_rwS I L).2) L) 117 24 (nI 0)) 117 21 ((I_X12_here ((tr_rwS I L).2) L) 117 21)) 117 22 (((I_X12_here ((tr_rwS I L).2) L) 117 22) + (nI 1))) 117 19) + (nI 0)))) (J' := J) rfl ?_
                rw [show ((tq_u (tq_u (tq_u (I_X12_here ((tr_rwS I L).2) L) 117 24 (nI 0)) 117 21 ((I_X12_here ((tr_rwS I L).2) L) 117 21)) 117 22 (((I_X12_here ((tr_rwS I L).2) L) 117 22) + (nI 1))) 117 19) = ((I_X12_here ((tr_rwS I L).2) L) 117 19) from by simp (disch := decide) only [tq_u_slot]]
                refine EV_blk (own := 12) C rfl [(.aload_n 0, 0, 0, 0, 0), (.getfield 205, 12, 24, 923, 0)] (pc' := 201) (by decide +kernel) (lv' := [some (.ref 117), some (.int ((tr_rwS I L).1)), some (.int (nI 1)), some (.int (nI 0))]) (st' := [.int ((tq_u (tq_u (tq_u (tq_u (I_X12_here ((tr_rwS I L).2) L) 117 24 (nI 0)) 117 21 ((I_X12_here ((tr_rwS I L).2) L) 117 21)) 117 22 (((I_X12_here ((tr_rwS I L).2) L) 117 22) + (nI 1))) 117 19 (((I_X12_here ((tr_rwS I L).2) L) 117 19) + (nI 0))) 117 24)]) (I' := (tq_u (tq_u (tq_u (tq_u (I_X12_here ((tr_rwS I L).2) L) 117 24 (nI 0)) 117 21 ((I_X12_here ((tr_rwS I L).2) L) 117 21)) 117 22 (((I_X12_here ((tr_rwS I L).2) L) 117 22) + (nI 1))) 117 19 (((I_X12_here ((tr_rwS I L).2) L) 117 19) + (nI 0)))) (J' := J) rfl ?_
                refine EV_ste (st' := [.int (nI 0)]) (by simp (disch := decide) only [tq_u_same, tq_u_slot]) ?_
                refine EV_if_eq (off := 11) (tgt := 212) C (by decide +kernel) (by decide) (fun h39 => ?_) (fun h39 => ?_)
                · skip
                  refine EV_blk (own := 12) C rfl [(.iconst 0, 0, 0, 0, (nI 0))] (pc' := 213) (by decide +kernel) (lv' := [some (.ref 117), some (.int ((tr_rwS I L).1)), some (.int (nI 1)), some (.int (nI 0))]) (st' := [.int (nI 0)]) (I' := (tq_u (tq_u (tq_u (tq_u (I_X12_here ((tr_rwS I L).2) L) 117 24 (nI 0)) 117 21 ((I_X12_here ((tr_rwS I L).2) L) 117 21)) 117 22 (((I_X12_here ((tr_rwS I L).2) L) 117 22) + (nI 1))) 117 19 (((I_X12_here ((tr_rwS I L).2) L) 117 19) + (nI 0)))) (J' := J) rfl ?_
                  exact EV_zret C hZ rfl (by decide) (by decide +kernel) (Nat.le_refl _) (Nat.le_refl _) ⟨tq_some (by simp only [r_X12_readsRow, if_neg h1, if_pos h2, if_neg hrow, if_neg h35, if_pos h36, if_neg h37, if_pos h38, if_pos h39]), rfl, rfl, by simp only [I_X12_readsRow, if_neg h1, if_pos h2, if_neg hrow, if_neg h35, if_pos h36, if_neg h37, if_pos h38, if_pos h39], rfl⟩
                · skip
                  exact absurd (by decide) h39
              · skip
                exact absurd (by decide) h38
            · skip
              exact absurd (by rw [tq_u_slot (by decide)] at h37; exact h37) hrow
          · skip
            exact absurd (by decide) h36
        · skip
          refine EV_blk (own := 12) C rfl [(.iconst 1, 0, 0, 0, (nI 1)), (.goto 4, 0, 0, 0, 0), (.istore_n 3, 0, 0, 0, 0), (.aload_n 0, 0, 0, 0, 0), (.iload_n 3, 0, 0, 0, 0)] (pc' := 106) (by decide +kernel) (lv' := [some (.ref 117), some (.int ((tr_rwS I L).1)), some (.int (nI 1)), some (.int (nI 1))]) (st' := [.int (nI 1), .ref 117]) (I' := (I_X12_here ((tr_rwS I L).2) L)) (J' := J) rfl ?_
          refine EV_if_eq (off := 30) (tgt := 136) C (by decide +kernel) (by decide) (fun h40 => ?_) (fun h40 => ?_)
          · skip
            exact absurd h40 (by decide)
          · skip
            refine EV_blk (own := 12) C rfl [(.iload_n 2, 0, 0, 0, 0)] (pc' := 110) (by decide +kernel) (lv' := [some (.ref 117), some (.int ((tr_rwS I L).1)), some (.int (nI 1)), some (.int (nI 1))]) (st' := [.int (nI 1), .ref 117]) (I' := (I_X12_here ((tr_rwS I L).2) L)) (J' := J) rfl ?_
            refine EV_if_eq (off := 13) (tgt := 123) C (by decide +kernel) (by decide) (fun h41 => ?_) (fun h41 => ?_)
            · skip
              exact absurd h41 (by decide)
            · skip
              refine EV_blk (own := 12) C rfl [(.aload_n 0, 0, 0, 0, 0), (.getfield 192, 12, 22, 921, 0)] (pc' := 117) (by decide +kernel) (lv' := [some (.ref 117), some (.int ((tr_rwS I L).1)), some (.int (nI 1)), some (.int (nI 1))]) (st' := [.int ((I_X12_here ((tr_rwS I L).2) L) 117 22), .ref 117]) (I' := (I_X12_here ((tr_rwS I L).2) L)) (J' := J) rfl ?_
              refine EV_if_le (off := 19) (tgt := 136) C (by decide +kernel) (by decide) (fun h42 => ?_) (fun h42 => ?_)
              · skip
                refine EV_blk (own := 12) C rfl [(.iconst 0, 0, 0, 0, (nI 0))] (pc' := 137) (by decide +kernel) (lv' := [some (.ref 117), some (.int ((tr_rwS I L).1)), some (.int (nI 1)), some (.int (nI 1))]) (st' := [.int (nI 0), .ref 117]) (I' := (I_X12_here ((tr_rwS I L).2) L)) (J' := J) rfl ?_
                refine EV_puti (own := 12) (idx := 205) (c := 12) (j := 24) (pl := 923) C rfl (Or.inl (by decide)) (by decide +kernel) rfl rfl (Or.inr ⟨rfl, by decide⟩) ?_
                refine EV_blk (own := 12) C rfl [(.aload_n 0, 0, 0, 0, 0), (.aload_n 0, 0, 0, 0, 0), (.getfield 192, 12, 22, 921, 0)] (pc' := 145) (by decide +kernel) (lv' := [some (.ref 117), some (.int ((tr_rwS I L).1)), some (.int (nI 1)), some (.int (nI 1))]) (st' := [.int ((tq_u (I_X12_here ((tr_rwS I L).2) L) 117 24 (nI 0)) 117 22), .ref 117]) (I' := (tq_u (I_X12_here ((tr_rwS I L).2) L) 117 24 (nI 0))) (J' := J) rfl ?_
                refine EV_if_ne (off := 10) (tgt := 155) C (by decide +kernel) (by decide) (fun h43 => ?_) (fun h43 => ?_)
                · skip
                  refine EV_blk (own := 12) C rfl [(.aload_n 0, 0, 0, 0, 0), (.getfield 195, 12, 21, 920, 0), (.putfield 195, 12, 21, 920, 0)] (pc' := 162) (by decide +kernel) (lv' := [some (.ref 117), some (.int ((tr_rwS I L).1)), some (.int (nI 1)), some (.int (nI 1))]) (st' := []) (I' := (tq_u (tq_u (I_X12_here ((tr_rwS I L).2) L) 117 24 (nI 0)) 117 21 ((tq_u (I_X12_here ((tr_rwS I L).2) L) 117 24 (nI 0)) 117 21))) (J' := J) rfl ?_
                  rw [show ((tq_u (I_X12_here ((tr_rwS I L).2) L) 117 24 (nI 0)) 117 21) = ((I_X12_here ((tr_rwS I L).2) L) 117 21) from by simp (disch := decide) only [tq_u_slot]]
                  refine EV_blk (own := 12) C rfl [(.aload_n 0, 0, 0, 0, 0), (.dup, 0, 0, 0, 0), (.getfield 192, 12, 22, 921, 0), (.iconst 1, 0, 0, 0, (nI 1)), (.iadd, 0, 0, 0, 0), (.putfield 192, 12, 22, 921, 0)] (pc' := 172) (by decide +kernel) (lv' := [some (.ref 117), some (.int ((tr_rwS I L).1)), some (.int (nI 1)), some (.int (nI 1))]) (st' := []) (I' := (tq_u (tq_u (tq_u (I_X12_here ((tr_rwS I L).2) L) 117 24 (nI 0)) 117 21 ((I_X12_here ((tr_rwS I L).2) L) 117 21)) 117 22 (((tq_u (tq_u (I_X12_here ((tr_rwS I L).2) L) 117 24 (nI 0)) 117 21 ((I_X12_here ((tr_rwS I L).2) L) 117 21)) 117 22) + (nI 1)))) (J' := J) rfl ?_
                  rw [show ((tq_u (tq_u (I_X12_here ((tr_rwS I L).2) L) 117 24 (nI 0)) 117 21 ((I_X12_here ((tr_rwS I L).2) L) 117 21)) 117 22) = ((I_X12_here ((tr_rwS I L).2) L) 117 22) from by simp (disch := decide) only [tq_u_slot]]
                  refine EV_blk (own := 12) C rfl [(.aload_n 0, 0, 0, 0, 0), (.dup, 0, 0, 0, 0), (.getfield 182, 12, 19, 918, 0), (.aload_n 0, 0, 0, 0, 0), (.getfield 205, 12, 24, 923, 0)] (pc' := 181) (by decide +kernel) (lv' := [some (.ref 117), some (.int ((tr_rwS I L).1)), some (.int (nI 1)), some (.int (nI 1))]) (st' := [.int ((tq_u (tq_u (tq_u (I_X12_here ((tr_rwS I L).2) L) 117 24 (nI 0)) 117 21 ((I_X12_here ((tr_rwS I L).2) L) 117 21)) 117 22 (((I_X12_here ((tr_rwS I L).2) L) 117 22) + (nI 1))) 117 24), .int ((tq_u (tq_u (tq_u (I_X12_here ((tr_rwS I L).2) L) 117 24 (nI 0)) 117 21 ((I_X12_here ((tr_rwS I L).2) L) 117 21)) 117 22 (((I_X12_here ((tr_rwS I L).2) L) 117 22) + (nI 1))) 117 19), .ref 117]) (I' := (tq_u (tq_u (tq_u (I_X12_here ((tr_rwS I L).2) L) 117 24 (nI 0)) 117 21 ((I_X12_here ((tr_rwS I L).2) L) 117 21)) 117 22 (((I_X12_here ((tr_rwS I L).2) L) 117 22) + (nI 1)))) (J' := J) rfl ?_
                  refine EV_ste (st' := [.int (nI 0), .int ((tq_u (tq_u (tq_u (I_X12_here ((tr_rwS I L).2) L) 117 24 (nI 0)) 117 21 ((I_X12_here ((tr_rwS I L).2) L) 117 21)) 117 22 (((I_X12_here ((tr_rwS I L).2) L) 117 22) + (nI 1))) 117 19), .ref 117]) (by simp (disch := decide) only [tq_u_same, tq_u_slot]) ?_
                  refine EV_if_eq (off := 11) (tgt := 192) C (by decide +kernel) (by decide) (fun h44 => ?_) (fun h44 => ?_)
                  · skip
                    refine EV_blk (own := 12) C rfl [(.iconst 0, 0, 0, 0, (nI 0)), (.iadd, 0, 0, 0, 0), (.putfield 182, 12, 19, 918, 0)] (pc' := 197) (by decide +kernel) (lv' := [some (.ref 117), some (.int ((tr_rwS I L).1)), some (.int (nI 1)), some (.int (nI 1))]) (st' := []) (I' := (tq_u (tq_u (tq_u (tq_u (I_X12_here ((tr_rwS I L).2) L) 117 24 (nI 0)) 117 21 ((I_X12_here ((tr_rwS I L).2) L) 117 21)) 117 22 (((I_X12_here ((tr_rwS I L).2) L) 117 22) + (nI 1))) 117 19 (((tq_u (tq_u (tq_u (I_X12_here ((tr_rwS I L).2) L) 117 24 (nI 0)) 117 21 ((I_X12_here ((tr_rwS I L).2) L) 117 21)) 117 22 (((I_X12_here ((tr_rwS I L).2) L) 117 22) + (nI 1))) 117 19) + (nI 0)))) (J' := J) rfl ?_
                    rw [show ((tq_u (tq_u (tq_u (I_X12_here ((tr_rwS I L).2) L) 117 24 (nI 0)) 117 21 ((I_X12_here ((tr_rwS I L).2) L) 117 21)) 117 22 (((I_X12_here ((tr_rwS I L).2) L) 117 22) + (nI 1))) 117 19) = ((I_X12_here ((tr_rwS I L).2) L) 117 19) from by simp (disch := decide) only [tq_u_slot]]
                    refine EV_blk (own := 12) C rfl [(.aload_n 0, 0, 0, 0, 0), (.getfield 205, 12, 24, 923, 0)] (pc' := 201) (by decide +kernel) (lv' := [some (.ref 117), some (.int ((tr_rwS I L).1)), some (.int (nI 1)), some (.int (nI 1))]) (st' := [.int ((tq_u (tq_u (tq_u (tq_u (I_X12_here ((tr_rwS I L).2) L) 117 24 (nI 0)) 117 21 ((I_X12_here ((tr_rwS I L).2) L) 117 21)) 117 22 (((I_X12_here ((tr_rwS I L).2) L) 117 22) + (nI 1))) 117 19 (((I_X12_here ((tr_rwS I L).2) L) 117 19) + (nI 0))) 117 24)]) (I' := (tq_u (tq_u (tq_u (tq_u (I_X12_here ((tr_rwS I L).2) L) 117 24 (nI 0)) 117 21 ((I_X12_here ((tr_rwS I L).2) L) 117 21)) 117 22 (((I_X12_here ((tr_rwS I L).2) L) 117 22) + (nI 1))) 117 19 (((I_X12_here ((tr_rwS I L).2) L) 117 19) + (nI 0)))) (J' := J) rfl ?_
                    refine EV_ste (st' := [.int (nI 0)]) (by simp (disch := decide) only [tq_u_same, tq_u_slot]) ?_
                    refine EV_if_eq (off := 11) (tgt := 212) C (by decide +kernel) (by decide) (fun h45 => ?_) (fun h45 => ?_)
                    · skip
                      refine EV_blk (own := 12) C rfl [(.iconst 0, 0, 0, 0, (nI 0))] (pc' := 213) (by decide +kernel) (lv' := [some (.ref 117), some (.int ((tr_rwS I L).1)), some (.int (nI 1)), some (.int (nI 1))]) (st' := [.int (nI 0)]) (I' := (tq_u (tq_u (tq_u (tq_u (I_X12_here ((tr_rwS I L).2) L) 117 24 (nI 0)) 117 21 ((I_X12_here ((tr_rwS I L).2) L) 117 21)) 117 22 (((I_X12_here ((tr_rwS I L).2) L) 117 22) + (nI 1))) 117 19 (((I_X12_here ((tr_rwS I L).2) L) 117 19) + (nI 0)))) (J' := J) rfl ?_
                      exact EV_zret C hZ rfl (by decide) (by decide +kernel) (Nat.le_refl _) (Nat.le_refl _) ⟨tq_some (by simp only [r_X12_readsRow, if_neg h1, if_pos h2, if_neg hrow, if_pos h35, if_neg h40, if_neg h41, if_pos h42, if_neg h43, if_pos h44, if_pos h45]), rfl, rfl, by simp only [I_X12_readsRow, if_neg h1, if_pos h2, if_neg hrow, if_pos h35, if_neg h40, if_neg h41, if_pos h42, if_neg h43, if_pos h44, if_pos h45], rfl⟩
                    · skip
                      exact absurd (by decide) h45
                  · skip
                    exact absurd (by decide) h44
                · skip
                  exact absurd (by rw [tq_u_slot (by decide)] at h43; exact h43) hrow
              · skip
                refine EV_blk (own := 12) C rfl [(.goto 12, 0, 0, 0, 0), (.iconst 1, 0, 0, 0, (nI 1)), (.goto 4, 0, 0, 0, 0)] (pc' := 137) (by decide +kernel) (lv' := [some (.ref 117), some (.int ((tr_rwS I L).1)), some (.int (nI 1)), some (.int (nI 1))]) (st' := [.int (nI 1), .ref 117]) (I' := (I_X12_here ((tr_rwS I L).2) L)) (J' := J) rfl ?_
                refine EV_puti (own := 12) (idx := 205) (c := 12) (j := 24) (pl := 923) C rfl (Or.inl (by decide)) (by decide +kernel) rfl rfl (Or.inr ⟨rfl, by decide⟩) ?_
                refine EV_blk (own := 12) C rfl [(.aload_n 0, 0, 0, 0, 0), (.aload_n 0, 0, 0, 0, 0), (.getfield 192, 12, 22, 921, 0)] (pc' := 145) (by decide +kernel) (lv' := [some (.ref 117), some (.int ((tr_rwS I L).1)), some (.int (nI 1)), some (.int (nI 1))]) (st' := [.int ((tq_u (I_X12_here ((tr_rwS I L).2) L) 117 24 (nI 1)) 117 22), .ref 117]) (I' := (tq_u (I_X12_here ((tr_rwS I L).2) L) 117 24 (nI 1))) (J' := J) rfl ?_
                refine EV_if_ne (off := 10) (tgt := 155) C (by decide +kernel) (by decide) (fun h46 => ?_) (fun h46 => ?_)
                · skip
                  refine EV_blk (own := 12) C rfl [(.aload_n 0, 0, 0, 0, 0), (.getfield 195, 12, 21, 920, 0), (.putfield 195, 12, 21, 920, 0)] (pc' := 162) (by decide +kernel) (lv' := [some (.ref 117), some (.int ((tr_rwS I L).1)), some (.int (nI 1)), some (.int (nI 1))]) (st' := []) (I' := (tq_u (tq_u (I_X12_here ((tr_rwS I L).2) L) 117 24 (nI 1)) 117 21 ((tq_u (I_X12_here ((tr_rwS I L).2) L) 117 24 (nI 1)) 117 21))) (J' := J) rfl ?_
                  rw [show ((tq_u (I_X12_here ((tr_rwS I L).2) L) 117 24 (nI 1)) 117 21) = ((I_X12_here ((tr_rwS I L).2) L) 117 21) from by simp (disch := decide) only [tq_u_slot]]
                  refine EV_blk (own := 12) C rfl [(.aload_n 0, 0, 0, 0, 0), (.dup, 0, 0, 0, 0), (.getfield 192, 12, 22, 921, 0), (.iconst 1, 0, 0, 0, (nI 1)), (.iadd, 0, 0, 0, 0), (.putfield 192, 12, 22, 921, 0)] (pc' := 172) (by decide +kernel) (lv' := [some (.ref 117), some (.int ((tr_rwS I L).1)), some (.int (nI 1)), some (.int (nI 1))]) (st' := []) (I' := (tq_u (tq_u (tq_u (I_X12_here ((tr_rwS I L).2) L) 117 24 (nI 1)) 117 21 ((I_X12_here ((tr_rwS I L).2) L) 117 21)) 117 22 (((tq_u (tq_u (I_X12_here ((tr_rwS I L).2) L) 117 24 (nI 1)) 117 21 ((I_X12_here ((tr_rwS I L).2) L) 117 21)) 117 22) + (nI 1)))) (J' := J) rfl ?_
                  rw [show ((tq_u (tq_u (I_X12_here ((tr_rwS I L).2) L) 117 24 (nI 1)) 117 21 ((I_X12_here ((tr_rwS I L).2) L) 117 21)) 117 22) = ((I_X12_here ((tr_rwS I L).2) L) 117 22) from by simp (disch := decide) only [tq_u_slot]]
                  refine EV_blk (own := 12) C rfl [(.aload_n 0, 0, 0, 0, 0), (.dup, 0, 0, 0, 0), (.getfield 182, 12, 19, 918, 0), (.aload_n 0, 0, 0, 0, 0), (.getfield 205, 12, 24, 923, 0)] (pc' := 181) (by decide +kernel) (lv' := [some (.ref 117), some (.int ((tr_rwS I L).1)), some (.int (nI 1)), some (.int (nI 1))]) (st' := [.int ((tq_u (tq_u (tq_u (I_X12_here ((tr_rwS I L).2) L) 117 24 (nI 1)) 117 21 ((I_X12_here ((tr_rwS I L).2) L) 117 21)) 117 22 (((I_X12_here ((tr_rwS I L).2) L) 117 22) + (nI 1))) 117 24), .int ((tq_u (tq_u (tq_u (I_X12_here ((tr_rwS I L).2) L) 117 24 (nI 1)) 117 21 ((I_X12_here ((tr_rwS I L).2) L) 117 21)) 117 22 (((I_X12_here ((tr_rwS I L).2) L) 117 22) + (nI 1))) 117 19), .ref 117]) (I' := (tq_u (tq_u (tq_u (I_X12_here ((tr_rwS I L).2) L) 117 24 (nI 1)) 117 21 ((I_X12_here ((tr_rwS I L).2) L) 117 21)) 117 22 (((I_X12_here ((tr_rwS I L).2) L) 117 22) + (nI 1)))) (J' := J) rfl ?_
                  refine EV_ste (st' := [.int (nI 1), .int ((tq_u (tq_u (tq_u (I_X12_here ((tr_rwS I L).2) L) 117 24 (nI 1)) 117 21 ((I_X12_here ((tr_rwS I L).2) L) 117 21)) 117 22 (((I_X12_here ((tr_rwS I L).2) L) 117 22) + (nI 1))) 117 19), .ref 117]) (by simp (disch := decide) only [tq_u_same, tq_u_slot]) ?_
                  refine EV_if_eq (off := 11) (tgt := 192) C (by decide +kernel) (by decide) (fun h47 => ?_) (fun h47 => ?_)
                  · skip
                    exact absurd h47 (by decide)
                  · skip
                    refine EV_blk (own := 12) C rfl [(.iload_n 2, 0, 0, 0, 0)] (pc' := 185) (by decide +kernel) (lv' := [some (.ref 117), some (.int ((tr_rwS I L).1)), some (.int (nI 1)), some (.int (nI 1))]) (st' := [.int (nI 1), .int ((tq_u (tq_u (tq_u (I_X12_here ((tr_rwS I L).2) L) 117 24 (nI 1)) 117 21 ((I_X12_here ((tr_rwS I L).2) L) 117 21)) 117 22 (((I_X12_here ((tr_rwS I L).2) L) 117 22) + (nI 1))) 117 19), .ref 117]) (I' := (tq_u (tq_u (tq_u (I_X12_here ((tr_rwS I L).2) L) 117 24 (nI 1)) 117 21 ((I_X12_here ((tr_rwS I L).2) L) 117 21)) 117 22 (((I_X12_here ((tr_rwS I L).2) L) 117 22) + (nI 1)))) (J' := J) rfl ?_
                    refine EV_if_ne (off := 7) (tgt := 192) C (by decide +kernel) (by decide) (fun h48 => ?_) (fun h48 => ?_)
                    · skip
                      refine EV_blk (own := 12) C rfl [(.iconst 0, 0, 0, 0, (nI 0)), (.iadd, 0, 0, 0, 0), (.putfield 182, 12, 19, 918, 0)] (pc' := 197) (by decide +kernel) (lv' := [some (.ref 117), some (.int ((tr_rwS I L).1)), some (.int (nI 1)), some (.int (nI 1))]) (st' := []) (I' := (tq_u (tq_u (tq_u (tq_u (I_X12_here ((tr_rwS I L).2) L) 117 24 (nI 1)) 117 21 ((I_X12_here ((tr_rwS I L).2) L) 117 21)) 117 22 (((I_X12_here ((tr_rwS I L).2) L) 117 22) + (nI 1))) 117 19 (((tq_u (tq_u (tq_u (I_X12_here ((tr_rwS I L).2) L) 117 24 (nI 1)) 117 21 ((I_X12_here ((tr_rwS I L).2) L) 117 21)) 117 22 (((I_X12_here ((tr_rwS I L).2) L) 117 22) + (nI 1))) 117 19) + (nI 0)))) (J' := J) rfl ?_
                      rw [show ((tq_u (tq_u (tq_u (I_X12_here ((tr_rwS I L).2) L) 117 24 (nI 1)) 117 21 ((I_X12_here ((tr_rwS I L).2) L) 117 21)) 117 22 (((I_X12_here ((tr_rwS I L).2) L) 117 22) + (nI 1))) 117 19) = ((I_X12_here ((tr_rwS I L).2) L) 117 19) from by simp (disch := decide) only [tq_u_slot]]
                      refine EV_blk (own := 12) C rfl [(.aload_n 0, 0, 0, 0, 0), (.getfield 205, 12, 24, 923, 0)] (pc' := 201) (by decide +kernel) (lv' := [some (.ref 117), some (.int ((tr_rwS I L).1)), some (.int (nI 1)), some (.int (nI 1))]) (st' := [.int ((tq_u (tq_u (tq_u (tq_u (I_X12_here ((tr_rwS I L).2) L) 117 24 (nI 1)) 117 21 ((I_X12_here ((tr_rwS I L).2) L) 117 21)) 117 22 (((I_X12_here ((tr_rwS I L).2) L) 117 22) + (nI 1))) 117 19 (((I_X12_here ((tr_rwS I L).2) L) 117 19) + (nI 0))) 117 24)]) (I' := (tq_u (tq_u (tq_u (tq_u (I_X12_here ((tr_rwS I L).2) L) 117 24 (nI 1)) 117 21 ((I_X12_here ((tr_rwS I L).2) L) 117 21)) 117 22 (((I_X12_here ((tr_rwS I L).2) L) 117 22) + (nI 1))) 117 19 (((I_X12_here ((tr_rwS I L).2) L) 117 19) + (nI 0)))) (J' := J) rfl ?_
                      refine EV_ste (st' := [.int (nI 1)]) (by simp (disch := decide) only [tq_u_same, tq_u_slot]) ?_
                      refine EV_if_eq (off := 11) (tgt := 212) C (by decide +kernel) (by decide) (fun h49 => ?_) (fun h49 => ?_)
                      · skip
                        exact absurd h49 (by decide)
                      · skip
                        refine EV_blk (own := 12) C rfl [(.iload_n 2, 0, 0, 0, 0)] (pc' := 205) (by decide +kernel) (lv' := [some (.ref 117), some (.int ((tr_rwS I L).1)), some (.int (nI 1)), some (.int (nI 1))]) (st' := [.int (nI 1)]) (I' := (tq_u (tq_u (tq_u (tq_u (I_X12_here ((tr_rwS I L).2) L) 117 24 (nI 1)) 117 21 ((I_X12_here ((tr_rwS I L).2) L) 117 21)) 117 22 (((I_X12_here ((tr_rwS I L).2) L) 117 22) + (nI 1))) 117 19 (((I_X12_here ((tr_rwS I L).2) L) 117 19) + (nI 0)))) (J' := J) rfl ?_
                        refine EV_if_ne (off := 7) (tgt := 212) C (by decide +kernel) (by decide) (fun h50 => ?_) (fun h50 => ?_)
                        · skip
                          refine EV_blk (own := 12) C rfl [(.iconst 0, 0, 0, 0, (nI 0))] (pc' := 213) (by decide +kernel) (lv' := [some (.ref 117), some (.int ((tr_rwS I L).1)), some (.int (nI 1)), some (.int (nI 1))]) (st' := [.int (nI 0)]) (I' := (tq_u (tq_u (tq_u (tq_u (I_X12_here ((tr_rwS I L).2) L) 117 24 (nI 1)) 117 21 ((I_X12_here ((tr_rwS I L).2) L) 117 21)) 117 22 (((I_X12_here ((tr_rwS I L).2) L) 117 22) + (nI 1))) 117 19 (((I_X12_here ((tr_rwS I L).2) L) 117 19) + (nI 0)))) (J' := J) rfl ?_
                          exact EV_zret C hZ rfl (by decide) (by decide +kernel) (Nat.le_refl _) (Nat.le_refl _) ⟨tq_some (by simp only [r_X12_readsRow, if_neg h1, if_pos h2, if_neg hrow, if_pos h35, if_neg h40, if_neg h41, if_neg h42, if_neg h46, if_neg h47, if_neg h48, if_neg h49, if_neg h50]), rfl, rfl, by simp only [I_X12_readsRow, if_neg h1, if_pos h2, if_neg hrow, if_pos h35, if_neg h40, if_neg h41, if_neg h42, if_neg h46, if_neg h47, if_neg h48, if_neg h49, if_neg h50], rfl⟩
                        · skip
                          exact absurd h50 (by decide)
                    · skip
                      exact absurd h48 (by decide)
                · skip
                  exact absurd (by rw [tq_u_slot (by decide)] at h46; exact h46) hrow
      · skip
        refine EV_blk (own := 12) C rfl [(.aload_n 0, 0, 0, 0, 0), (.getfield 198, 12, 23, 922, 0), (.iconst 1, 0, 0, 0, (nI 1))] (pc' := 76) (by decide +kernel) (lv' := [some (.ref 117), some (.int ((tr_rwS I L).1)), some (.int (nI 1)), none]) (st' := [.int (nI 1), .int ((I_X12_here ((tr_rwS I L).2) L) 117 23)]) (I' := (I_X12_here ((tr_rwS I L).2) L)) (J' := J) rfl ?_
        refine EV_icmp_le (off := 7) (tgt := 83) C (by decide +kernel) (by decide) (fun h51 => ?_) (fun h51 => ?_)
        · skip
          refine EV_blk (own := 12) C rfl [(.iconst 0, 0, 0, 0, (nI 0)), (.goto 19, 0, 0, 0, 0), (.istore_n 3, 0, 0, 0, 0), (.aload_n 0, 0, 0, 0, 0), (.iload_n 3, 0, 0, 0, 0)] (pc' := 106) (by decide +kernel) (lv' := [some (.ref 117), some (.int ((tr_rwS I L).1)), some (.int (nI 1)), some (.int (nI 0))]) (st' := [.int (nI 0), .ref 117]) (I' := (I_X12_here ((tr_rwS I L).2) L)) (J' := J) rfl ?_
          refine EV_if_eq (off := 30) (tgt := 136) C (by decide +kernel) (by decide) (fun h52 => ?_) (fun h52 => ?_)
          · skip
            refine EV_blk (own := 12) C rfl [(.iconst 0, 0, 0, 0, (nI 0))] (pc' := 137) (by decide +kernel) (lv' := [some (.ref 117), some (.int ((tr_rwS I L).1)), some (.int (nI 1)), some (.int (nI 0))]) (st' := [.int (nI 0), .ref 117]) (I' := (I_X12_here ((tr_rwS I L).2) L)) (J' := J) rfl ?_
            refine EV_puti (own := 12) (idx := 205) (c := 12) (j := 24) (pl := 923) C rfl (Or.inl (by decide)) (by decide +kernel) rfl rfl (Or.inr ⟨rfl, by decide⟩) ?_
            refine EV_blk (own := 12) C rfl [(.aload_n 0, 0, 0, 0, 0), (.aload_n 0, 0, 0, 0, 0), (.getfield 192, 12, 22, 921, 0)] (pc' := 145) (by decide +kernel) (lv' := [some (.ref 117), some (.int ((tr_rwS I L).1)), some (.int (nI 1)), some (.int (nI 0))]) (st' := [.int ((tq_u (I_X12_here ((tr_rwS I L).2) L) 117 24 (nI 0)) 117 22), .ref 117]) (I' := (tq_u (I_X12_here ((tr_rwS I L).2) L) 117 24 (nI 0))) (J' := J) rfl ?_
            refine EV_if_ne (off := 10) (tgt := 155) C (by decide +kernel) (by decide) (fun h53 => ?_) (fun h53 => ?_)
            · skip
              exact absurd (by rw [tq_u_slot (by decide)]; exact hrow) h53
            · skip
              refine EV_blk (own := 12) C rfl [(.aload_n 0, 0, 0, 0, 0), (.getfield 198, 12, 23, 922, 0), (.goto 7, 0, 0, 0, 0), (.putfield 195, 12, 21, 920, 0)] (pc' := 162) (by decide +kernel) (lv' := [some (.ref 117), some (.int ((tr_rwS I L).1)), some (.int (nI 1)), some (.int (nI 0))]) (st' := []) (I' := (tq_u (tq_u (I_X12_here ((tr_rwS I L).2) L) 117 24 (nI 0)) 117 21 ((tq_u (I_X12_here ((tr_rwS I L).2) L) 117 24 (nI 0)) 117 23))) (J' := J) rfl ?_
              rw [show ((tq_u (I_X12_here ((tr_rwS I L).2) L) 117 24 (nI 0)) 117 23) = ((I_X12_here ((tr_rwS I L).2) L) 117 23) from by simp (disch := decide) only [tq_u_slot]]
              refine EV_blk (own := 12) C rfl [(.aload_n 0, 0, 0, 0, 0), (.dup, 0, 0, 0, 0), (.getfield 192, 12, 22, 921, 0), (.iconst 1, 0, 0, 0, (nI 1)), (.iadd, 0, 0, 0, 0), (.putfield 192, 12, 22, 921, 0)] (pc' := 172) (by decide +kernel) (lv' := [some (.ref 117), some (.int ((tr_rwS I L).1)), some (.int (nI 1)), some (.int (nI 0))]) (st' := []) (I' := (tq_u (tq_u (tq_u (I_X12_here ((tr_rwS I L).2) L) 117 24 (nI 0)) 117 21 ((I_X12_here ((tr_rwS I L).2) L) 117 23)) 117 22 (((tq_u (tq_u (I_X12_here ((tr_rwS I L).2) L) 117 24 (nI 0)) 117 21 ((I_X12_here ((tr_rwS I L).2) L) 117 23)) 117 22) + (nI 1)))) (J' := J) rfl ?_
              rw [show ((tq_u (tq_u (I_X12_here ((tr_rwS I L).2) L) 117 24 (nI 0)) 117 21 ((I_X12_here ((tr_rwS I L).2) L) 117 23)) 117 22) = ((I_X12_here ((tr_rwS I L).2) L) 117 22) from by simp (disch := decide) only [tq_u_slot]]
              refine EV_blk (own := 12) C rfl [(.aload_n 0, 0, 0, 0, 0), (.dup, 0, 0, 0, 0), (.getfield 182, 12, 19, 918, 0), (.aload_n 0, 0, 0, 0, 0), (.getfield 205, 12, 24, 923, 0)] (pc' := 181) (by decide +kernel) (lv' := [some (.ref 117), some (.int ((tr_rwS I L).1)), some (.int (nI 1)), some (.int (nI 0))]) (st' := [.int ((tq_u (tq_u (tq_u (I_X12_here ((tr_rwS I L).2) L) 117 24 (nI 0)) 117 21 ((I_X12_here ((tr_rwS I L).2) L) 117 23)) 117 22 (((I_X12_here ((tr_rwS I L).2) L) 117 22) + (nI 1))) 117 24), .int ((tq_u (tq_u (tq_u (I_X12_here ((tr_rwS I L).2) L) 117 24 (nI 0)) 117 21 ((I_X12_here ((tr_rwS I L).2) L) 117 23)) 117 22 (((I_X12_here ((tr_rwS I L).2) L) 117 22) + (nI 1))) 117 19), .ref 117]) (I' := (tq_u (tq_u (tq_u (I_X12_here ((tr_rwS I L).2) L) 117 24 (nI 0)) 117 21 ((I_X12_here ((tr_rwS I L).2) L) 117 23)) 117 22 (((I_X12_here ((tr_rwS I L).2) L) 117 22) + (nI 1)))) (J' := J) rfl ?_
              refine EV_ste (st' := [.int (nI 0), .int ((tq_u (tq_u (tq_u (I_X12_here ((tr_rwS I L).2) L) 117 24 (nI 0)) 117 21 ((I_X12_here ((tr_rwS I L).2) L) 117 23)) 117 22 (((I_X12_here ((tr_rwS I L).2) L) 117 22) + (nI 1))) 117 19), .ref 117]) (by simp (disch := decide) only [tq_u_same, tq_u_slot]) ?_
              refine EV_if_eq (off := 11) (tgt := 192) C (by decide +kernel) (by decide) (fun h54 => ?_) (fun h54 => ?_)
              · skip
                refine EV_blk (own := 12) C rfl [(.iconst 0, 0, 0, 0, (nI 0)), (.iadd, 0, 0, 0, 0), (.putfield 182, 12, 19, 918, 0)] (pc' := 197) (by decide +kernel) (lv' := [some (.ref 117), some (.int ((tr_rwS I L).1)), some (.int (nI 1)), some (.int (nI 0))]) (st' := []) (I' := (tq_u (tq_u (tq_u (tq_u (I_X12_here ((tr_rwS I L).2) L) 117 24 (nI 0)) 117 21 ((I_X12_here ((tr_rwS I L).2) L) 117 23)) 117 22 (((I_X12_here ((tr_rwS I L).2) L) 117 22) + (nI 1))) 117 19 (((tq_u (tq_u (tq_u (I_X12_here ((tr_rwS I L).2) L) 117 24 (nI 0)) 117 21 ((I_X12_here ((tr_rwS I L).2) L) 117 23)) 117 22 (((I_X12_here ((tr_rwS I L).2) L) 117 22) + (nI 1))) 117 19) + (nI 0)))) (J' := J) rfl ?_
                rw [show ((tq_u (tq_u (tq_u (I_X12_here ((tr_rwS I L).2) L) 117 24 (nI 0)) 117 21 ((I_X12_here ((tr_rwS I L).2) L) 117 23)) 117 22 (((I_X12_here ((tr_rwS I L).2) L) 117 22) + (nI 1))) 117 19) = ((I_X12_here ((tr_rwS I L).2) L) 117 19) from by simp (disch := decide) only [tq_u_slot]]
                refine EV_blk (own := 12) C rfl [(.aload_n 0, 0, 0, 0, 0), (.getfield 205, 12, 24, 923, 0)] (pc' := 201) (by decide +kernel) (lv' := [some (.ref 117), some (.int ((tr_rwS I L).1)), some (.int (nI 1)), some (.int (nI 0))]) (st' := [.int ((tq_u (tq_u (tq_u (tq_u (I_X12_here ((tr_rwS I L).2) L) 117 24 (nI 0)) 117 21 ((I_X12_here ((tr_rwS I L).2) L) 117 23)) 117 22 (((I_X12_here ((tr_rwS I L).2) L) 117 22) + (nI 1))) 117 19 (((I_X12_here ((tr_rwS I L).2) L) 117 19) + (nI 0))) 117 24)]) (I' := (tq_u (tq_u (tq_u (tq_u (I_X12_here ((tr_rwS I L).2) L) 117 24 (nI 0)) 117 21 ((I_X12_here ((tr_rwS I L).2) L) 117 23)) 117 22 (((I_X12_here ((tr_rwS I L).2) L) 117 22) + (nI 1))) 117 19 (((I_X12_here ((tr_rwS I L).2) L) 117 19) + (nI 0)))) (J' := J) rfl ?_
                refine EV_ste (st' := [.int (nI 0)]) (by simp (disch := decide) only [tq_u_same, tq_u_slot]) ?_
                refine EV_if_eq (off := 11) (tgt := 212) C (by decide +kernel) (by decide) (fun h55 => ?_) (fun h55 => ?_)
                · skip
                  refine EV_blk (own := 12) C rfl [(.iconst 0, 0, 0, 0, (nI 0))] (pc' := 213) (by decide +kernel) (lv' := [some (.ref 117), some (.int ((tr_rwS I L).1)), some (.int (nI 1)), some (.int (nI 0))]) (st' := [.int (nI 0)]) (I' := (tq_u (tq_u (tq_u (tq_u (I_X12_here ((tr_rwS I L).2) L) 117 24 (nI 0)) 117 21 ((I_X12_here ((tr_rwS I L).2) L) 117 23)) 117 22 (((I_X12_here ((tr_rwS I L).2) L) 117 22) + (nI 1))) 117 19 (((I_X12_here ((tr_rwS I L).2) L) 117 19) + (nI 0)))) (J' := J) rfl ?_
                  exact EV_zret C hZ rfl (by decide) (by decide +kernel) (Nat.le_refl _) (Nat.le_refl _) ⟨tq_some (by simp only [r_X12_readsRow, if_neg h1, if_pos h2, if_pos hrow, if_pos h51, if_pos h52, if_pos h53, if_pos h54, if_pos h55]), rfl, rfl, by simp only [I_X12_readsRow, if_neg h1, if_pos h2, if_pos hrow, if_pos h51, if_pos h52, if_pos h53, if_pos h54, if_pos h55], rfl⟩
                · skip
                  exact absurd (by decide) h55
              · skip
                exact absurd (by decide) h54
          · skip
            exact absurd (by decide) h52
        · skip
          refine EV_blk (own := 12) C rfl [(.iconst 1, 0, 0, 0, (nI 1)), (.goto 23, 0, 0, 0, 0), (.istore_n 3, 0, 0, 0, 0), (.aload_n 0, 0, 0, 0, 0), (.iload_n 3, 0, 0, 0, 0)] (pc' := 106) (by decide +kernel) (lv' := [some (.ref 117), some (.int ((tr_rwS I L).1)), some (.int (nI 1)), some (.int (nI 1))]) (st' := [.int (nI 1), .ref 117]) (I' := (I_X12_here ((tr_rwS I L).2) L)) (J' := J) rfl ?_
          refine EV_if_eq (off := 30) (tgt := 136) C (by decide +kernel) (by decide) (fun h56 => ?_) (fun h56 => ?_)
          · skip
            exact absurd h56 (by decide)
          · skip
            refine EV_blk (own := 12) C rfl [(.iload_n 2, 0, 0, 0, 0)] (pc' := 110) (by decide +kernel) (lv' := [some (.ref 117), some (.int ((tr_rwS I L).1)), some (.int (nI 1)), some (.int (nI 1))]) (st' := [.int (nI 1), .ref 117]) (I' := (I_X12_here ((tr_rwS I L).2) L)) (J' := J) rfl ?_
            refine EV_if_eq (off := 13) (tgt := 123) C (by decide +kernel) (by decide) (fun h57 => ?_) (fun h57 => ?_)
            · skip
              exact absurd h57 (by decide)
            · skip
              refine EV_blk (own := 12) C rfl [(.aload_n 0, 0, 0, 0, 0), (.getfield 192, 12, 22, 921, 0)] (pc' := 117) (by decide +kernel) (lv' := [some (.ref 117), some (.int ((tr_rwS I L).1)), some (.int (nI 1)), some (.int (nI 1))]) (st' := [.int ((I_X12_here ((tr_rwS I L).2) L) 117 22), .ref 117]) (I' := (I_X12_here ((tr_rwS I L).2) L)) (J' := J) rfl ?_
              refine EV_if_le (off := 19) (tgt := 136) C (by decide +kernel) (by decide) (fun h58 => ?_) (fun h58 => ?_)
              · skip
                refine EV_blk (own := 12) C rfl [(.iconst 0, 0, 0, 0, (nI 0))] (pc' := 137) (by decide +kernel) (lv' := [some (.ref 117), some (.int ((tr_rwS I L).1)), some (.int (nI 1)), some (.int (nI 1))]) (st' := [.int (nI 0), .ref 117]) (I' := (I_X12_here ((tr_rwS I L).2) L)) (J' := J) rfl ?_
                refine EV_puti (own := 12) (idx := 205) (c := 12) (j := 24) (pl := 923) C rfl (Or.inl (by decide)) (by decide +kernel) rfl rfl (Or.inr ⟨rfl, by decide⟩) ?_
                refine EV_blk (own := 12) C rfl [(.aload_n 0, 0, 0, 0, 0), (.aload_n 0, 0, 0, 0, 0), (.getfield 192, 12, 22, 921, 0)] (pc' := 145) (by decide +kernel) (lv' := [some (.ref 117), some (.int ((tr_rwS I L).1)), some (.int (nI 1)), some (.int (nI 1))]) (st' := [.int ((tq_u (I_X12_here ((tr_rwS I L).2) L) 117 24 (nI 0)) 117 22), .ref 117]) (I' := (tq_u (I_X12_here ((tr_rwS I L).2) L) 117 24 (nI 0))) (J' := J) rfl ?_
                refine EV_if_ne (off := 10) (tgt := 155) C (by decide +kernel) (by decide) (fun h59 => ?_) (fun h59 => ?_)
                · skip
                  exact absurd (by rw [tq_u_slot (by decide)]; exact hrow) h59
                · skip
                  refine EV_blk (own := 12) C rfl [(.aload_n 0, 0, 0, 0, 0), (.getfield 198, 12, 23, 922, 0), (.goto 7, 0, 0, 0, 0), (.putfield 195, 12, 21, 920, 0)] (pc' := 162) (by decide +kernel) (lv' := [some (.ref 117), some (.int ((tr_rwS I L).1)), some (.int (nI 1)), some (.int (nI 1))]) (st' := []) (I' := (tq_u (tq_u (I_X12_here ((tr_rwS I L).2) L) 117 24 (nI 0)) 117 21 ((tq_u (I_X12_here ((tr_rwS I L).2) L) 117 24 (nI 0)) 117 23))) (J' := J) rfl ?_
                  rw [show ((tq_u (I_X12_here ((tr_rwS I L).2) L) 117 24 (nI 0)) 117 23) = ((I_X12_here ((tr_rwS I L).2) L) 117 23) from by simp (disch := decide) only [tq_u_slot]]
                  refine EV_blk (own := 12) C rfl [(.aload_n 0, 0, 0, 0, 0), (.dup, 0, 0, 0, 0), (.getfield 192, 12, 22, 921, 0), (.iconst 1, 0, 0, 0, (nI 1)), (.iadd, 0, 0, 0, 0), (.putfield 192, 12, 22, 921, 0)] (pc' := 172) (by decide +kernel) (lv' := [some (.ref 117), some (.int ((tr_rwS I L).1)), some (.int (nI 1)), some (.int (nI 1))]) (st' := []) (I' := (tq_u (tq_u (tq_u (I_X12_here ((tr_rwS I L).2) L) 117 24 (nI 0)) 117 21 ((I_X12_here ((tr_rwS I L).2) L) 117 23)) 117 22 (((tq_u (tq_u (I_X12_here ((tr_rwS I L).2) L) 117 24 (nI 0)) 117 21 ((I_X12_here ((tr_rwS I L).2) L) 117 23)) 117 22) + (nI 1)))) (J' := J) rfl ?_
                  rw [show ((tq_u (tq_u (I_X12_here ((tr_rwS I L).2) L) 117 24 (nI 0)) 117 21 ((I_X12_here ((tr_rwS I L).2) L) 117 23)) 117 22) = ((I_X12_here ((tr_rwS I L).2) L) 117 22) from by simp (disch := decide) only [tq_u_slot]]
                  refine EV_blk (own := 12) C rfl [(.aload_n 0, 0, 0, 0, 0), (.dup, 0, 0, 0, 0), (.getfield 182, 12, 19, 918, 0), (.aload_n 0, 0, 0, 0, 0), (.getfield 205, 12, 24, 923, 0)] (pc' := 181) (by decide +kernel) (lv' := [some (.ref 117), some (.int ((tr_rwS I L).1)), some (.int (nI 1)), some (.int (nI 1))]) (st' := [.int ((tq_u (tq_u (tq_u (I_X12_here ((tr_rwS I L).2) L) 117 24 (nI 0)) 117 21 ((I_X12_here ((tr_rwS I L).2) L) 117 23)) 117 22 (((I_X12_here ((tr_rwS I L).2) L) 117 22) + (nI 1))) 117 24), .int ((tq_u (tq_u (tq_u (I_X12_here ((tr_rwS I L).2) L) 117 24 (nI 0)) 117 21 ((I_X12_here ((tr_rwS I L).2) L) 117 23)) 117 22 (((I_X12_here ((tr_rwS I L).2) L) 117 22) + (nI 1))) 117 19), .ref 117]) (I' := (tq_u (tq_u (tq_u (I_X12_here ((tr_rwS I L).2) L) 117 24 (nI 0)) 117 21 ((I_X12_here ((tr_rwS I L).2) L) 117 23)) 117 22 (((I_X12_here ((tr_rwS I L).2) L) 117 22) + (nI 1)))) (J' := J) rfl ?_
                  refine EV_ste (st' := [.int (nI 0), .int ((tq_u (tq_u (tq_u (I_X12_here ((tr_rwS I L).2) L) 117 24 (nI 0)) 117 21 ((I_X12_here ((tr_rwS I L).2) L) 117 23)) 117 22 (((I_X12_here ((tr_rwS I L).2) L) 117 22) + (nI 1))) 117 19), .ref 117]) (by simp (disch := decide) only [tq_u_same, tq_u_slot]) ?_
                  refine EV_if_eq (off := 11) (tgt := 192) C (by decide +kernel) (by decide) (fun h60 => ?_) (fun h60 => ?_)
                  · skip
                    refine EV_blk (own := 12) C rfl [(.iconst 0, 0, 0, 0, (nI 0)), (.iadd, 0, 0, 0, 0), (.putfield 182, 12, 19, 918, 0)] (pc' := 197) (by decide +kernel) (lv' := [some (.ref 117), some (.int ((tr_rwS I L).1)), some (.int (nI 1)), some (.int (nI 1))]) (st' := []) (I' := (tq_u (tq_u (tq_u (tq_u (I_X12_here ((tr_rwS I L).2) L) 117 24 (nI 0)) 117 21 ((I_X12_here ((tr_rwS I L).2) L) 117 23)) 117 22 (((I_X12_here ((tr_rwS I L).2) L) 117 22) + (nI 1))) 117 19 (((tq_u (tq_u (tq_u (I_X12_here ((tr_rwS I L).2) L) 117 24 (nI 0)) 117 21 ((I_X12_here ((tr_rwS I L).2) L) 117 23)) 117 22 (((I_X12_here ((tr_rwS I L).2) L) 117 22) + (nI 1))) 117 19) + (nI 0)))) (J' := J) rfl ?_
                    rw [show ((tq_u (tq_u (tq_u (I_X12_here ((tr_rwS I L).2) L) 117 24 (nI 0)) 117 21 ((I_X12_here ((tr_rwS I L).2) L) 117 23)) 117 22 (((I_X12_here ((tr_rwS I L).2) L) 117 22) + (nI 1))) 117 19) = ((I_X12_here ((tr_rwS I L).2) L) 117 19) from by simp (disch := decide) only [tq_u_slot]]
                    refine EV_blk (own := 12) C rfl [(.aload_n 0, 0, 0, 0, 0), (.getfield 205, 12, 24, 923, 0)] (pc' := 201) (by decide +kernel) (lv' := [some (.ref 117), some (.int ((tr_rwS I L).1)), some (.int (nI 1)), some (.int (nI 1))]) (st' := [.int ((tq_u (tq_u (tq_u (tq_u (I_X12_here ((tr_rwS I L).2) L) 117 24 (nI 0)) 117 21 ((I_X12_here ((tr_rwS I L).2) L) 117 23)) 117 22 (((I_X12_here ((tr_rwS I L).2) L) 117 22) + (nI 1))) 117 19 (((I_X12_here ((tr_rwS I L).2) L) 117 19) + (nI 0))) 117 24)]) (I' := (tq_u (tq_u (tq_u (tq_u (I_X12_here ((tr_rwS I L).2) L) 117 24 (nI 0)) 117 21 ((I_X12_here ((tr_rwS I L).2) L) 117 23)) 117 22 (((I_X12_here ((tr_rwS I L).2) L) 117 22) + (nI 1))) 117 19 (((I_X12_here ((tr_rwS I L).2) L) 117 19) + (nI 0)))) (J' := J) rfl ?_
                    refine EV_ste (st' := [.int (nI 0)]) (by simp (disch := decide) only [tq_u_same, tq_u_slot]) ?_
                    refine EV_if_eq (off := 11) (tgt := 212) C (by decide +kernel) (by decide) (fun h61 => ?_) (fun h61 => ?_)
                    · skip
                      refine EV_blk (own := 12) C rfl [(.iconst 0, 0, 0, 0, (nI 0))] (pc' := 213) (by decide +kernel) (lv' := [some (.ref 117), some (.int ((tr_rwS I L).1)), some (.int (nI 1)), some (.int (nI 1))]) (st' := [.int (nI 0)]) (I' := (tq_u (tq_u (tq_u (tq_u (I_X12_here ((tr_rwS I L).2) L) 117 24 (nI 0)) 117 21 ((I_X12_here ((tr_rwS I L).2) L) 117 23)) 117 22 (((I_X12_here ((tr_rwS I L).2) L) 117 22) + (nI 1))) 117 19 (((I_X12_here ((tr_rwS I L).2) L) 117 19) + (nI 0)))) (J' := J) rfl ?_
                      exact EV_zret C hZ rfl (by decide) (by decide +kernel) (Nat.le_refl _) (Nat.le_refl _) ⟨tq_some (by simp only [r_X12_readsRow, if_neg h1, if_pos h2, if_pos hrow, if_neg h51, if_neg h56, if_neg h57, if_pos h58, if_pos h59, if_pos h60, if_pos h61]), rfl, rfl, by simp only [I_X12_readsRow, if_neg h1, if_pos h2, if_pos hrow, if_neg h51, if_neg h56, if_neg h57, if_pos h58, if_pos h59, if_pos h60, if_pos h61], rfl⟩
                    · skip
                      exact absurd (by decide) h61
                  · skip
                    exact absurd (by decide) h60
              · skip
                refine EV_blk (own := 12) C rfl [(.goto 12, 0, 0, 0, 0), (.iconst 1, 0, 0, 0, (nI 1)), (.goto 4, 0, 0, 0, 0)] (pc' := 137) (by decide +kernel) (lv' := [some (.ref 117), some (.int ((tr_rwS I L).1)), some (.int (nI 1)), some (.int (nI 1))]) (st' := [.int (nI 1), .ref 117]) (I' := (I_X12_here ((tr_rwS I L).2) L)) (J' := J) rfl ?_
                refine EV_puti (own := 12) (idx := 205) (c := 12) (j := 24) (pl := 923) C rfl (Or.inl (by decide)) (by decide +kernel) rfl rfl (Or.inr ⟨rfl, by decide⟩) ?_
                refine EV_blk (own := 12) C rfl [(.aload_n 0, 0, 0, 0, 0), (.aload_n 0, 0, 0, 0, 0), (.getfield 192, 12, 22, 921, 0)] (pc' := 145) (by decide +kernel) (lv' := [some (.ref 117), some (.int ((tr_rwS I L).1)), some (.int (nI 1)), some (.int (nI 1))]) (st' := [.int ((tq_u (I_X12_here ((tr_rwS I L).2) L) 117 24 (nI 1)) 117 22), .ref 117]) (I' := (tq_u (I_X12_here ((tr_rwS I L).2) L) 117 24 (nI 1))) (J' := J) rfl ?_
                refine EV_if_ne (off := 10) (tgt := 155) C (by decide +kernel) (by decide) (fun h62 => ?_) (fun h62 => ?_)
                · skip
                  exact absurd (by rw [tq_u_slot (by decide)]; exact hrow) h62
                · skip
                  refine EV_blk (own := 12) C rfl [(.aload_n 0, 0, 0, 0, 0), (.getfield 198, 12, 23, 922, 0), (.goto 7, 0, 0, 0, 0), (.putfield 195, 12, 21, 920, 0)] (pc' := 162) (by decide +kernel) (lv' := [some (.ref 117), some (.int ((tr_rwS I L).1)), some (.int (nI 1)), some (.int (nI 1))]) (st' := []) (I' := (tq_u (tq_u (I_X12_here ((tr_rwS I L).2) L) 117 24 (nI 1)) 117 21 ((tq_u (I_X12_here ((tr_rwS I L).2) L) 117 24 (nI 1)) 117 23))) (J' := J) rfl ?_
                  rw [show ((tq_u (I_X12_here ((tr_rwS I L).2) L) 117 24 (nI 1)) 117 23) = ((I_X12_here ((tr_rwS I L).2) L) 117 23) from by simp (disch := decide) only [tq_u_slot]]
                  refine EV_blk (own := 12) C rfl [(.aload_n 0, 0, 0, 0, 0), (.dup, 0, 0, 0, 0), (.getfield 192, 12, 22, 921, 0), (.iconst 1, 0, 0, 0, (nI 1)), (.iadd, 0, 0, 0, 0), (.putfield 192, 12, 22, 921, 0)] (pc' := 172) (by decide +kernel) (lv' := [some (.ref 117), some (.int ((tr_rwS I L).1)), some (.int (nI 1)), some (.int (nI 1))]) (st' := []) (I' := (tq_u (tq_u (tq_u (I_X12_here ((tr_rwS I L).2) L) 117 24 (nI 1)) 117 21 ((I_X12_here ((tr_rwS I L).2) L) 117 23)) 117 22 (((tq_u (tq_u (I_X12_here ((tr_rwS I L).2) L) 117 24 (nI 1)) 117 21 ((I_X12_here ((tr_rwS I L).2) L) 117 23)) 117 22) + (nI 1)))) (J' := J) rfl ?_
                  rw [show ((tq_u (tq_u (I_X12_here ((tr_rwS I L).2) L) 117 24 (nI 1)) 117 21 ((I_X12_here ((tr_rwS I L).2) L) 117 23)) 117 22) = ((I_X12_here ((tr_rwS I L).2) L) 117 22) from by simp (disch := decide) only [tq_u_slot]]
                  refine EV_blk (own := 12) C rfl [(.aload_n 0, 0, 0, 0, 0), (.dup, 0, 0, 0, 0), (.getfield 182, 12, 19, 918, 0), (.aload_n 0, 0, 0, 0, 0), (.getfield 205, 12, 24, 923, 0)] (pc' := 181) (by decide +kernel) (lv' := [some (.ref 117), some (.int ((tr_rwS I L).1)), some (.int (nI 1)), some (.int (nI 1))]) (st' := [.int ((tq_u (tq_u (tq_u (I_X12_here ((tr_rwS I L).2) L) 117 24 (nI 1)) 117 21 ((I_X12_here ((tr_rwS I L).2) L) 117 23)) 117 22 (((I_X12_here ((tr_rwS I L).2) L) 117 22) + (nI 1))) 117 24), .int ((tq_u (tq_u (tq_u (I_X12_here ((tr_rwS I L).2) L) 117 24 (nI 1)) 117 21 ((I_X12_here ((tr_rwS I L).2) L) 117 23)) 117 22 (((I_X12_here ((tr_rwS I L).2) L) 117 22) + (nI 1))) 117 19), .ref 117]) (I' := (tq_u (tq_u (tq_u (I_X12_here ((tr_rwS I L).2) L) 117 24 (nI 1)) 117 21 ((I_X12_here ((tr_rwS I L).2) L) 117 23)) 117 22 (((I_X12_here ((tr_rwS I L).2) L) 117 22) + (nI 1)))) (J' := J) rfl ?_
                  refine EV_ste (st' := [.int (nI 1), .int ((tq_u (tq_u (tq_u (I_X12_here ((tr_rwS I L).2) L) 117 24 (nI 1)) 117 21 ((I_X12_here ((tr_rwS I L).2) L) 117 23)) 117 22 (((I_X12_here ((tr_rwS I L).2) L) 117 22) + (nI 1))) 117 19), .ref 117]) (by simp (disch := decide) only [tq_u_same, tq_u_slot]) ?_
                  refine EV_if_eq (off := 11) (tgt := 192) C (by decide +kernel) (by decide) (fun h63 => ?_) (fun h63 => ?_)
                  · skip
                    exact absurd h63 (by decide)
                  · skip
                    refine EV_blk (own := 12) C rfl [(.iload_n 2, 0, 0, 0, 0)] (pc' := 185) (by decide +kernel) (lv' := [some (.ref 117), some (.int ((tr_rwS I L).1)), some (.int (nI 1)), some (.int (nI 1))]) (st' := [.int (nI 1), .int ((tq_u (tq_u (tq_u (I_X12_here ((tr_rwS I L).2) L) 117 24 (nI 1)) 117 21 ((I_X12_here ((tr_rwS I L).2) L) 117 23)) 117 22 (((I_X12_here ((tr_rwS I L).2) L) 117 22) + (nI 1))) 117 19), .ref 117]) (I' := (tq_u (tq_u (tq_u (I_X12_here ((tr_rwS I L).2) L) 117 24 (nI 1)) 117 21 ((I_X12_here ((tr_rwS I L).2) L) 117 23)) 117 22 (((I_X12_here ((tr_rwS I L).2) L) 117 22) + (nI 1)))) (J' := J) rfl ?_
                    refine EV_if_ne (off := 7) (tgt := 192) C (by decide +kernel) (by decide) (fun h64 => ?_) (fun h64 => ?_)
                    · skip
                      refine EV_blk (own := 12) C rfl [(.iconst 0, 0, 0, 0, (nI 0)), (.iadd, 0, 0, 0, 0), (.putfield 182, 12, 19, 918, 0)] (pc' := 197) (by decide +kernel) (lv' := [some (.ref 117), some (.int ((tr_rwS I L).1)), some (.int (nI 1)), some (.int (nI 1))]) (st' := []) (I' := (tq_u (tq_u (tq_u (tq_u (I_X12_here ((tr_rwS I L).2) L) 117 24 (nI 1)) 117 21 ((I_X12_here ((tr_rwS I L).2) L) 117 23)) 117 22 (((I_X12_here ((tr_rwS I L).2) L) 117 22) + (nI 1))) 117 19 (((tq_u (tq_u (tq_u (I_X12_here ((tr_rwS I L).2) L) 117 24 (nI 1)) 117 21 ((I_X12_here ((tr_rwS I L).2) L) 117 23)) 117 22 (((I_X12_here ((tr_rwS I L).2) L) 117 22) + (nI 1))) 117 19) + (nI 0)))) (J' := J) rfl ?_
                      rw [show ((tq_u (tq_u (tq_u (I_X12_here ((tr_rwS I L).2) L) 117 24 (nI 1)) 117 21 ((I_X12_here ((tr_rwS I L).2) L) 117 23)) 117 22 (((I_X12_here ((tr_rwS I L).2) L) 117 22) + (nI 1))) 117 19) = ((I_X12_here ((tr_rwS I L).2) L) 117 19) from by simp (disch := decide) only [tq_u_slot]]
                      refine EV_blk (own := 12) C rfl [(.aload_n 0, 0, 0, 0, 0), (.getfield 205, 12, 24, 923, 0)] (pc' := 201) (by decide +kernel) (lv' := [some (.ref 117), some (.int ((tr_rwS I L).1)), some (.int (nI 1)), some (.int (nI 1))]) (st' := [.int ((tq_u (tq_u (tq_u (tq_u (I_X12_here ((tr_rwS I L).2) L) 117 24 (nI 1)) 117 21 ((I_X12_here ((tr_rwS I L).2) L) 117 23)) 117 22 (((I_X12_here ((tr_rwS I L).2) L) 117 22) + (nI 1))) 117 19 (((I_X12_here ((tr_rwS I L).2) L) 117 19) + (nI 0))) 117 24)]) (I' := (tq_u (tq_u (tq_u (tq_u (I_X12_here ((tr_rwS I L).2) L) 117 24 (nI 1)) 117 21 ((I_X12_here ((tr_rwS I L).2) L) 117 23)) 117 22 (((I_X12_here ((tr_rwS I L).2) L) 117 22) + (nI 1))) 117 19 (((I_X12_here ((tr_rwS I L).2) L) 117 19) + (nI 0)))) (J' := J) rfl ?_
                      refine EV_ste (st' := [.int (nI 1)]) (by simp (disch := decide) only [tq_u_same, tq_u_slot]) ?_
                      refine EV_if_eq (off := 11) (tgt := 212) C (by decide +kernel) (by decide) (fun h65 => ?_) (fun h65 => ?_)
                      · skip
                        exact absurd h65 (by decide)
                      · skip
                        refine EV_blk (own := 12) C rfl [(.iload_n 2, 0, 0, 0, 0)] (pc' := 205) (by decide +kernel) (lv' := [some (.ref 117), some (.int ((tr_rwS I L).1)), some (.int (nI 1)), some (.int (nI 1))]) (st' := [.int (nI 1)]) (I' := (tq_u (tq_u (tq_u (tq_u (I_X12_here ((tr_rwS I L).2) L) 117 24 (nI 1)) 117 21 ((I_X12_here ((tr_rwS I L).2) L) 117 23)) 117 22 (((I_X12_here ((tr_rwS I L).2) L) 117 22) + (nI 1))) 117 19 (((I_X12_here ((tr_rwS I L).2) L) 117 19) + (nI 0)))) (J' := J) rfl ?_
                        refine EV_if_ne (off := 7) (tgt := 212) C (by decide +kernel) (by decide) (fun h66 => ?_) (fun h66 => ?_)
                        · skip
                          refine EV_blk (own := 12) C rfl [(.iconst 0, 0, 0, 0, (nI 0))] (pc' := 213) (by decide +kernel) (lv' := [some (.ref 117), some (.int ((tr_rwS I L).1)), some (.int (nI 1)), some (.int (nI 1))]) (st' := [.int (nI 0)]) (I' := (tq_u (tq_u (tq_u (tq_u (I_X12_here ((tr_rwS I L).2) L) 117 24 (nI 1)) 117 21 ((I_X12_here ((tr_rwS I L).2) L) 117 23)) 117 22 (((I_X12_here ((tr_rwS I L).2) L) 117 22) + (nI 1))) 117 19 (((I_X12_here ((tr_rwS I L).2) L) 117 19) + (nI 0)))) (J' := J) rfl ?_
                          exact EV_zret C hZ rfl (by decide) (by decide +kernel) (Nat.le_refl _) (Nat.le_refl _) ⟨tq_some (by simp only [r_X12_readsRow, if_neg h1, if_pos h2, if_pos hrow, if_neg h51, if_neg h56, if_neg h57, if_neg h58, if_pos h62, if_neg h63, if_neg h64, if_neg h65, if_neg h66]), rfl, rfl, by simp only [I_X12_readsRow, if_neg h1, if_pos h2, if_pos hrow, if_neg h51, if_neg h56, if_neg h57, if_neg h58, if_pos h62, if_neg h63, if_neg h64, if_neg h65, if_neg h66], rfl⟩
                        · skip
                          exact absurd h66 (by decide)
                    · skip
                      exact absurd h64 (by decide)
  · skip
    refine EV_blk (own := 12) C rfl [(.aload_n 0, 0, 0, 0, 0), (.iconst 0, 0, 0, 0, (nI 0))] (pc' := 45) (by decide +kernel) (lv' := [some (.ref 117), some (.int ((tr_rwS I L).1)), none, none]) (st' := [.int (nI 0), .ref 117]) (I' := (tr_rwS I L).2) (J' := J) rfl ?_
    refine EV_puti (own := 12) (idx := 205) (c := 12) (j := 24) (pl := 923) C rfl (Or.inl (by decide)) (by decide +kernel) rfl rfl (Or.inr ⟨rfl, by decide⟩) ?_
    refine EV_blk (own := 12) C rfl [(.iconst 0, 0, 0, 0, (nI 0))] (pc' := 49) (by decide +kernel) (lv' := [some (.ref 117), some (.int ((tr_rwS I L).1)), none, none]) (st' := [.int (nI 0)]) (I' := (tq_u ((tr_rwS I L).2) 117 24 (nI 0))) (J' := J) rfl ?_
    exact EV_zret C hZ rfl (by decide) (by decide +kernel) (Nat.le_refl _) (Nat.le_refl _) ⟨tq_some (by simp only [r_X12_readsRow, if_pos h1]), rfl, rfl, by simp only [I_X12_readsRow, if_pos h1], rfl⟩
theorem fr_X12_readsRow (I : tq_I) (L : Nat) {cz : Nat} (hc : cz ≠ 117 ∧ cz ≠ 130) (jz : Nat) : I_X12_readsRow I L cz jz = I cz jz := by
  obtain ⟨hc0, hc1⟩ := hc
  simp only [I_X12_readsRow]
  (repeat' split) <;> simp (disch := first | assumption | (simp only [ne_eq] at *; simp [*])) [tq_u, tq_cp, hc0, hc1, fr_X12_touches, fr_ta1, fr_X12_touchesAll, fr_cps1, fr_X12_copies, fr_sav, fr_bg1, fr_bg2, fr_X12_begins, fr_ly1, fr_X12_lays, fr_bgn1, fr_X12_begin, fr_X12_setCorner, fr_fi1, fr_X12_fill, fr_fg1, fr_X12_forgets, fr_rc1, fr_rc2, fr_X12_reaches, fr_mfl1, fr_X12_flood, fr_mrg1, fr_X12_regions, fr_mra1, fr_X12_raise, fr_sp1, fr_X12_setPath, fr_sr1, fr_sr2, fr_X12_setRank, fr_X12_becomes, fr_X12_setTiles, fr_X12_setVariants, fr_X12_setSeed, fr_X12_setBorder, fr_X12_makesUp, fr_X12_finds, fr_X12_parts, fr_put, fr_mfy2, fr_X12_findsLayers, fr_mfp1, fr_mfp2, fr_X12_findsPieces, fr_X12_layers, fr_X12_layer, fr_X12_pieces, fr_X12_piece, fr_X12_isStaleAt, fr_mpa1, fr_X12_paints, fr_X12_isStale, fr_mst2, fr_X12_stale, fr_mpt1, fr_X12_paint, fr_X12_paintCell, fr_mfk2, fr_mfk3, fr_X12_findsKinds, fr_X12_kinds, fr_X12_kind, fr_X12_undo, fr_X12_here, fr_X12_type, fr_X12_clearText, fr_X12_number, fr_mri1, fr_X12_readsItem, fr_rwS]
/-- a row read: what is said of it -/
def tr_rowQ (I K : tq_I) (r : Int32) (L : Nat) : Prop := (r = 0 ∨ r = 1) ∧ tr_tx K L ∧ (K 117 24 = 0 ∨ K 117 24 = 1) ∧ (0 ≤ (K 117 23).toInt ∧ (K 117 23).toInt ≤ 11) ∧ (0 ≤ (K 117 21).toInt ∧ (K 117 21).toInt ≤ 11) ∧ (r = 1 → (K 117 22).toInt ≤ 10 ∧ K 117 24 = 1) ∧ (K 117 24 = 1 → (K 117 22).toInt = (I 117 22).toInt + 1 ∧ (r = 0 → 1 ≤ (I 117 22).toInt) ∧ ((I 117 22).toInt = 0 ∨ 2 ≤ (I 117 21).toInt → 2 ≤ (K 117 21).toInt))
theorem tr_row {I : tq_I} {L : Nat} (k : tr_tx I L) (k2 : tr_rs I) : tr_rowQ I (I_X12_readsRow I L) (r_X12_readsRow I L) L := by
  have hrP := tr_rwP k k2
  generalize hz : tr_rwS I L = z at hrP
  obtain ⟨q1, q2, q3, q4⟩ := hrP
  have kh := q1.here
  have hL := k.2.1
  have hsk := tr_skI_le q1
  have e0 : (nI 0).toInt = 0 := by decide
  have e1 : (nI 1).toInt = 1 := by decide
  have e10 : (nI 10).toInt = 10 := by decide
  have hz0 : (0 : Int32).toInt = 0 := by decide
  have s22 : I_X12_here z.2 L 117 22 = I 117 22 := by rw [fs_here _ _ _ (by decide)]; exact q3 _ (by decide) (by decide)
  have s21 : I_X12_here z.2 L 117 21 = I 117 21 := by rw [fs_here _ _ _ (by decide)]; exact q3 _ (by decide) (by decide)
  have s23 : I_X12_here z.2 L 117 23 = z.2 117 23 := fs_here _ _ _ (by decide)
  have s3 : I_X12_here z.2 L 117 3 = nI L := kh.1
  have s19 : I_X12_here z.2 L 117 19 = nI (tr_skI z.2 L) := tr_hereP
  have hv := tr_hereV q1
  have b22 := k2.1
  have b21 := k2.2.2
  have b23 := q2.2.1
  have i22 : (I 117 22 + nI 1).toInt = (I 117 22).toInt + 1 := tr_ainc (n := 10) b22.1 b22.2 (by decide)
  have hz22 : (I 117 22 = 0) = ((I 117 22).toInt = 0) := propext ⟨fun q => by rw [q]; decide, fun q => Int32.toInt_inj.mp (by rw [q]; rfl)⟩
  have p1 : nI (tr_skI z.2 L) + nI 1 = nI (tr_skI z.2 L + 1) := nI_add _ _
  have p0 : nI (tr_skI z.2 L) + nI 0 = nI (tr_skI z.2 L) := nI_add _ _
  have hlt : ¬ r_X12_here z.2 L = (-1) → tr_skI z.2 L + 1 ≤ L := by
    intro q
    rw [hv] at q
    by_cases c : L ≤ tr_skI z.2 L
    · rw [if_pos c] at q; exact absurd rfl q
    · omega
  unfold tr_rowQ r_X12_readsRow I_X12_readsRow tr_tx
  rw [hz]
  split
  · simp (disch := decide) only [tq_u_same, tq_u_slot]
    exact ⟨Or.inl rfl, q1, Or.inl rfl, b23, by rw [q3 _ (by decide) (by decide)]; exact b21, fun q => absurd q (by decide), fun q => absurd q (by decide)⟩
  · (repeat' split) <;> (simp (disch := decide) only [tq_u_same, tq_u_slot, s22, s21, s23, s3, s19, p0, p1, i22] at *; simp (disch := omega) only [hz22, Int32.lt_iff_toInt_lt, Int32.le_iff_toInt_le, e0, e1, e10, hz0, nI_toInt] at *; refine ⟨by first | exact Or.inl rfl | exact Or.inr rfl, ⟨trivial, hL, ?_⟩, by first | exact Or.inl rfl | exact Or.inr rfl, b23, ?_, ?_, ?_⟩) <;> first | omega | (have := hlt (by assumption); omega) | (intro q; exact absurd q (by decide)) | (intro q; refine ⟨by omega, by first | rfl | decide⟩) | (intro q; refine ⟨by omega, fun q2 => by first | omega | exact absurd q2 (by decide), fun q2 => by omega⟩)
theorem tr_rrP {a : tq_I} {L n : Nat} (k : tr_tx a L) (k2 : tr_rs a) (hk : (a 117 22).toInt + (n + 1 : Nat) = 11) : r_X12_readsRow a L = 0 ∨ (I_X12_readsRow a L 117 22).toInt + (n : Nat) = 11 := by
  have h := tr_row k k2
  rcases h.1 with e | e
  · exact Or.inl e
  · right
    have h1 := h.2.2.2.2.2.1 e
    have h2 := h.2.2.2.2.2.2 h1.2
    omega
/-- between rows -/
def tr_raI (L : Nat) (a : Int32 × tq_I) : Prop := tr_tx a.2 L ∧ (a.2 117 24 = 0 ∨ a.2 117 24 = 1) ∧ (0 ≤ (a.2 117 21).toInt ∧ (a.2 117 21).toInt ≤ 11) ∧ (¬ a.1 = 0 → tr_rs a.2 ∧ ((a.2 117 22).toInt = 0 ∨ 2 ≤ (a.2 117 21).toInt)) ∧ (a.1 = 0 → a.2 117 24 = 1 → 2 ≤ (a.2 117 21).toInt ∧ 2 ≤ (a.2 117 22).toInt ∧ (a.2 117 22).toInt ≤ 11)
theorem tr_raS {L : Nat} {a : Int32 × tq_I} (k : tr_raI L a) (h : ¬ a.1 = 0) : tr_raI L (r_X12_readsRow a.2 L, I_X12_readsRow a.2 L) := by
  obtain ⟨k1, k2, k3, k4, k5⟩ := k
  have h4 := k4 h
  have q := tr_row k1 h4.1
  obtain ⟨q1, q2, q3, q4, q5, q6, q7⟩ := q
  unfold tr_raI
  dsimp only
  have b := h4.1.1
  refine ⟨q2, q3, q5, fun hr => ?_, fun hr hf => ?_⟩
  · have e := q1.resolve_left hr
    have h6 := q6 e
    have h7 := q7 h6.2
    exact ⟨⟨⟨by omega, h6.1⟩, q4, q5⟩, Or.inr (h7.2.2 h4.2)⟩
  · have h7 := q7 hf
    have := h7.2.1 hr
    exact ⟨h7.2.2 h4.2, by omega, by omega⟩
def f_mra2 (L : Nat) (i : Nat) (a : Int32 × tq_I) : Option (Int32 × tq_I) := (if a.1 = 0 then none else (some ((r_X12_readsRow a.2 L), (I_X12_readsRow a.2 L))))
set_option maxRecDepth 20000 in
theorem lp_mra2 {g : tq_G} {x0 : tq_X} (C : tq_C g mX12_readsAll x0) (hR : tq_ht x0 4 0 0) (J : Int64) (L : Nat)  : ∀ (n i : Nat) (a : Int32 × tq_I), (a.1 = 0 ∨ (a.2 117 22).toInt + (n : Nat) = 11) → tr_raI L a → EV g mX12_readsAll x0 0 0 29 [some (.ref 117), some (.int ((tq_wh (f_mra2 L) n i a).1))] [] (tq_SC ++ tq_SR) tq_RR ((tq_wh (f_mra2 L) n i a).2) J → EV g mX12_readsAll x0 0 0 17 [some (.ref 117), some (.int a.1)] [] (tq_SC ++ tq_SR) tq_RR a.2 J := by
  intro n
  induction n with
  | zero =>
    intro i a hi hI kk
    rw [show tq_wh _ 0 i a = a from rfl] at kk
    refine EV_blk (own := 12) C rfl [(.iload_n 1, 0, 0, 0, 0)] (pc' := 18) (by decide +kernel) (lv' := [some (.ref 117), some (.int a.1)]) (st' := [.int a.1]) (I' := a.2) (J' := J) rfl ?_
    refine EV_if_eq (off := 11) (tgt := 29) C (by decide +kernel) (by decide) (fun hon => ?_) (fun hon => ?_)
    · skip
      exact kk
    · skip
      exact absurd (hi.resolve_left hon) (by have := (hI.2.2.2.1 hon).1.1; omega)
  | succ n ih =>
    intro i a hi hI kk
    refine EV_blk (own := 12) C rfl [(.iload_n 1, 0, 0, 0, 0)] (pc' := 18) (by decide +kernel) (lv' := [some (.ref 117), some (.int a.1)]) (st' := [.int a.1]) (I' := a.2) (J' := J) rfl ?_
    refine EV_if_eq (off := 11) (tgt := 29) C (by decide +kernel) (by decide) (fun hon => ?_) (fun hon => ?_)
    · skip
      rw [tq_wh_none (show (f_mra2 L) i a = none from by simp only [f_mra2, if_pos hon])] at kk
      exact kk
    · skip
      refine EV_blk (own := 12) C rfl [(.aload_n 0, 0, 0, 0, 0)] (pc' := 22) (by decide +kernel) (lv' := [some (.ref 117), some (.int a.1)]) (st' := [.ref 117]) (I' := a.2) (J' := J) rfl ?_
      refine EV_cV (own := 12) (idx := 209) (μ' := mX12_readsRow) (b := 117) (cb := 12) (av := []) (rest := []) C hR rfl (Or.inl ⟨1241, by decide⟩) kX12_readsRow sX12_readsRow (c_X12_readsRow g a.2 J L hI.1 (hI.2.2.2.1 hon).1) rfl rfl (by decide +kernel) rfl (by decide) (Nat.le_of_ble_eq_true rfl) rfl ⟨Nat.zero_le _, Nat.zero_le _⟩ ?_
      refine EV_blk (own := 12) C rfl [(.istore_n 1, 0, 0, 0, 0), (.goto (-9), 0, 0, 0, 0)] (pc' := 17) (by decide +kernel) (lv' := [some (.ref 117), some (.int (r_X12_readsRow a.2 L))]) (st' := []) (I' := (I_X12_readsRow a.2 L)) (J' := J) rfl ?_
      rw [tq_wh_some (show (f_mra2 L) i a = some ((r_X12_readsRow a.2 L), (I_X12_readsRow a.2 L)) from by simp only [f_mra2, if_neg hon])] at kk
      have ihx := ih (i + 1) ((r_X12_readsRow a.2 L), (I_X12_readsRow a.2 L))
      dsimp only at ihx
      exact ihx (tr_rrP hI.1 (hI.2.2.2.1 hon).1 (hi.resolve_left hon)) (tr_raS hI hon) kk
def tr_raA (I : tq_I) : tq_I := tq_u (tq_u (tq_u I 117 19 (nI 0)) 117 22 (nI 0)) 117 24 (nI 1)
def tr_raE (I : tq_I) (L : Nat) : Int32 × tq_I := tq_wh (f_mra2 L) 11 0 (nI 1, tr_raA I)
/-- what the reader wants -/
def tr_rdy (I : tq_I) (L : Nat) : Prop := I 117 3 = nI L ∧ L ≤ 150 ∧ (0 ≤ (I 117 21).toInt ∧ (I 117 21).toInt ≤ 11) ∧ (0 ≤ (I 117 23).toInt ∧ (I 117 23).toInt ≤ 11)
theorem tr_raA0 {I : tq_I} {L : Nat} (k : tr_rdy I L) : tr_raI L (nI 1, tr_raA I) := by
  unfold tr_raI tr_tx tr_rs tr_raA
  dsimp only
  simp (disch := decide) only [tq_u_same, tq_u_slot]
  obtain ⟨k1, k2, k3, k4⟩ := k
  have e0 : (nI 0).toInt = 0 := by decide
  exact ⟨⟨k1, k2, by omega, by omega⟩, Or.inr rfl, k3, fun _ => ⟨⟨by omega, k4, k3⟩, Or.inl e0⟩, fun q => absurd q (by decide)⟩
theorem tr_raEP {I : tq_I} {L : Nat} (k : tr_rdy I L) : tr_raI L (tr_raE I L) := by
  refine tq_whP (tr_raI L) (fun i a b ha hb => ?_) 11 0 _ (tr_raA0 k)
  unfold f_mra2 at hb
  split at hb
  · cases hb
  · rename_i hon
    rw [← Option.some.inj hb]
    exact tr_raS ha hon
theorem fr_raE {I : tq_I} {L : Nat} {cz : Nat} (hc : cz ≠ 117 ∧ cz ≠ 130) (jz : Nat) : (tr_raE I L).2 cz jz = I cz jz := by
  unfold tr_raE
  refine tq_whP (fun (b : Int32 × tq_I) => b.2 cz jz = I cz jz) (fun i a b ha h => ?_) 11 0 _ (by dsimp only; unfold tr_raA; rw [tq_u_cell hc.1, tq_u_cell hc.1, tq_u_cell hc.1])
  unfold f_mra2 at h
  split at h
  · cases h
  · rw [← Option.some.inj h]
    dsimp only
    rw [fr_X12_readsRow _ _ hc]
    exact ha
/-- what is left over by the loop: it has come to its end -/
theorem tr_raEnd {L : Nat} : ∀ (n i : Nat) (a : Int32 × tq_I), tr_raI L a → (a.1 = 0 ∨ (a.2 117 22).toInt + (n : Nat) = 11) → (tq_wh (f_mra2 L) n i a).1 = 0
  | 0, i, a, k, h => by
    rcases h with h | h
    · exact h
    · refine Classical.byContradiction (fun q => ?_)
      have := (k.2.2.2.1 q).1.1
      omega
  | n + 1, i, a, k, h => by
    by_cases c : a.1 = 0
    · have hf : f_mra2 L i a = none := by unfold f_mra2; rw [if_pos c]
      rw [tq_wh_none hf]; exact c
    · have hf : f_mra2 L i a = some (r_X12_readsRow a.2 L, I_X12_readsRow a.2 L) := by unfold f_mra2; rw [if_neg c]
      rw [tq_wh_some hf]
      have ih := tr_raEnd n (i + 1) (r_X12_readsRow a.2 L, I_X12_readsRow a.2 L) (tr_raS k c)
      dsimp only at ih
      exact ih (tr_rrP k.1 (k.2.2.2.1 c).1 (h.resolve_left c))
theorem tr_raE0 {I : tq_I} {L : Nat} (k : tr_rdy I L) : (tr_raE I L).1 = 0 := by
  refine tr_raEnd 11 0 _ (tr_raA0 k) (Or.inr ?_)
  show (tr_raA I 117 22).toInt + ((11 : Nat) : Int) = 11
  unfold tr_raA
  simp (disch := decide) only [tq_u_same, tq_u_slot]
  decide
def r_X12_readsAll (I : tq_I) (L : Nat) : Int32 := ((tr_raE I L).2 117 24)
def I_X12_readsAll (I : tq_I) (L : Nat) : tq_I := (tr_raE I L).2
set_option maxRecDepth 20000 in
theorem c_X12_readsAll (g : tq_G) (I : tq_I) (J : Int64) (L : Nat) (k : tr_rdy I L) : CT g mX12_readsAll 4 0 0 [.ref 117] (tq_SC ++ tq_SR) tq_RR I J (tq_ret (tq_SC ++ tq_SR) tq_RR (some (.int (r_X12_readsAll I L))) (I_X12_readsAll I L) J) := by
  refine CT.ret kX12_readsAll (Nat.le_of_ble_eq_true rfl) (fun x0 C hR hZ => ?_)
  refine EV_en (lv' := [some (.ref 117), none]) 1 rfl ?_
  refine EV_blk (own := 12) C rfl [(.aload_n 0, 0, 0, 0, 0), (.iconst 0, 0, 0, 0, (nI 0)), (.putfield 182, 12, 19, 918, 0), (.aload_n 0, 0, 0, 0, 0), (.iconst 0, 0, 0, 0, (nI 0)), (.putfield 192, 12, 22, 921, 0), (.aload_n 0, 0, 0, 0, 0), (.iconst 1, 0, 0, 0, (nI 1))] (pc' := 12) (by decide +kernel) (lv' := [some (.ref 117), none]) (st' := [.int (nI 1), .ref 117]) (I' := (tq_u (tq_u I 117 19 (nI 0)) 117 22 (nI 0))) (J' := J) rfl ?_
  refine EV_puti (own := 12) (idx := 205) (c := 12) (j := 24) (pl := 923) C rfl (Or.inl (by decide)) (by decide +kernel) rfl rfl (Or.inr ⟨rfl, by decide⟩) ?_
  refine EV_blk (own := 12) C rfl [(.iconst 1, 0, 0, 0, (nI 1)), (.istore_n 1, 0, 0, 0, 0)] (pc' := 17) (by decide +kernel) (lv' := [some (.ref 117), some (.int (nI 1))]) (st' := []) (I' := (tq_u (tq_u (tq_u I 117 19 (nI 0)) 117 22 (nI 0)) 117 24 (nI 1))) (J' := J) rfl ?_
  have hE := tr_raEP k
  have hlp := lp_mra2 (g := g) C hR J L 11 0 (nI 1, tr_raA I)
  rw [show tq_wh (f_mra2 L) 11 0 (nI 1, tr_raA I) = tr_raE I L from rfl] at hlp
  dsimp only at hlp
  have hA := tr_raA0 k
  change EV g mX12_readsAll x0 0 0 17 [some (.ref 117), some (.int (nI 1))] [] (tq_SC ++ tq_SR) tq_RR (tr_raA I) J
  generalize hEE : tr_raE I L = E at hlp hE
  refine hlp (Or.inr (by unfold tr_raA; simp (disch := decide) only [tq_u_same, tq_u_slot]; decide)) hA ?_
  clear hlp
  refine EV_blk (own := 12) C rfl [(.aload_n 0, 0, 0, 0, 0), (.getfield 205, 12, 24, 923, 0)] (pc' := 33) (by decide +kernel) (lv' := [some (.ref 117), some (.int E.1)]) (st' := [.int (E.2 117 24)]) (I' := E.2) (J' := J) rfl ?_
  exact EV_zret C hZ rfl hE.2.1 (by decide +kernel) (Nat.le_refl _) (Nat.le_refl _) ⟨tq_some (by simp only [r_X12_readsAll, hEE]), rfl, rfl, by simp only [I_X12_readsAll, hEE], rfl⟩
theorem fr_X12_readsAll (I : tq_I) (L : Nat) {cz : Nat} (hc : cz ≠ 117 ∧ cz ≠ 130) (jz : Nat) : I_X12_readsAll I L cz jz = I cz jz := by
  obtain ⟨hc0, hc1⟩ := hc
  simp only [I_X12_readsAll]
  (repeat' split) <;> simp (disch := first | assumption | (simp only [ne_eq] at *; simp [*])) [tq_u, tq_cp, hc0, hc1, fr_X12_touches, fr_ta1, fr_X12_touchesAll, fr_cps1, fr_X12_copies, fr_sav, fr_bg1, fr_bg2, fr_X12_begins, fr_ly1, fr_X12_lays, fr_bgn1, fr_X12_begin, fr_X12_setCorner, fr_fi1, fr_X12_fill, fr_fg1, fr_X12_forgets, fr_rc1, fr_rc2, fr_X12_reaches, fr_mfl1, fr_X12_flood, fr_mrg1, fr_X12_regions, fr_mra1, fr_X12_raise, fr_sp1, fr_X12_setPath, fr_sr1, fr_sr2, fr_X12_setRank, fr_X12_becomes, fr_X12_setTiles, fr_X12_setVariants, fr_X12_setSeed, fr_X12_setBorder, fr_X12_makesUp, fr_X12_finds, fr_X12_parts, fr_put, fr_mfy2, fr_X12_findsLayers, fr_mfp1, fr_mfp2, fr_X12_findsPieces, fr_X12_layers, fr_X12_layer, fr_X12_pieces, fr_X12_piece, fr_X12_isStaleAt, fr_mpa1, fr_X12_paints, fr_X12_isStale, fr_mst2, fr_X12_stale, fr_mpt1, fr_X12_paint, fr_X12_paintCell, fr_mfk2, fr_mfk3, fr_X12_findsKinds, fr_X12_kinds, fr_X12_kind, fr_X12_undo, fr_X12_here, fr_X12_type, fr_X12_clearText, fr_X12_number, fr_mri1, fr_X12_readsItem, fr_rwS, fr_X12_readsRow, fr_raE]
def r_X12_textFault (I : tq_I) (L : Nat) : Int32 := (if (r_X12_readsAll I L) = 0 then ((I_X12_readsAll I L) 117 19) else (-1))
def I_X12_textFault (I : tq_I) (L : Nat) : tq_I := (if (r_X12_readsAll I L) = 0 then (I_X12_readsAll I L) else (I_X12_readsAll I L))
set_option maxRecDepth 20000 in
theorem c_X12_textFault (g : tq_G) (I : tq_I) (J : Int64) (L : Nat) (k : tr_rdy I L) : CT g mX12_textFault 5 0 0 [.ref 117] (tq_SC ++ tq_SR) tq_RR I J (tq_ret (tq_SC ++ tq_SR) tq_RR (some (.int (r_X12_textFault I L))) (I_X12_textFault I L) J) := by
  refine CT.ret kX12_textFault (Nat.le_of_ble_eq_true rfl) (fun x0 C hR hZ => ?_)
  refine EV_en (lv' := [some (.ref 117)]) 0 rfl ?_
  refine EV_blk (own := 12) C rfl [(.aload_n 0, 0, 0, 0, 0)] (pc' := 1) (by decide +kernel) (lv' := [some (.ref 117)]) (st' := [.ref 117]) (I' := I) (J' := J) rfl ?_
  refine EV_cV (own := 12) (idx := 212) (μ' := mX12_readsAll) (b := 117) (cb := 12) (av := []) (rest := []) C hR rfl (Or.inl ⟨1237, by decide⟩) kX12_readsAll sX12_readsAll (c_X12_readsAll g I J L k) rfl rfl (by decide +kernel) rfl (by decide) (Nat.le_of_ble_eq_true rfl) rfl ⟨Nat.zero_le _, Nat.zero_le _⟩ ?_
  refine EV_if_eq (off := 7) (tgt := 11) C (by decide +kernel) (by decide) (fun h1 => ?_) (fun h1 => ?_)
  · skip
    refine EV_blk (own := 12) C rfl [(.aload_n 0, 0, 0, 0, 0), (.getfield 182, 12, 19, 918, 0)] (pc' := 15) (by decide +kernel) (lv' := [some (.ref 117)]) (st' := [.int ((I_X12_readsAll I L) 117 19)]) (I' := (I_X12_readsAll I L)) (J' := J) rfl ?_
    exact EV_iret C hZ rfl (by decide +kernel) (Nat.le_refl _) (Nat.le_refl _) ⟨tq_some (by simp only [r_X12_textFault, if_pos h1]), rfl, rfl, by simp only [I_X12_textFault, if_pos h1], rfl⟩
  · skip
    refine EV_blk (own := 12) C rfl [(.iconst (-1), 0, 0, 0, (-1)), (.goto 7, 0, 0, 0, 0)] (pc' := 15) (by decide +kernel) (lv' := [some (.ref 117)]) (st' := [.int (-1)]) (I' := (I_X12_readsAll I L)) (J' := J) rfl ?_
    exact EV_iret C hZ rfl (by decide +kernel) (Nat.le_refl _) (Nat.le_refl _) ⟨tq_some (by simp only [r_X12_textFault, if_neg h1]), rfl, rfl, by simp only [I_X12_textFault, if_neg h1], rfl⟩
theorem fr_X12_textFault (I : tq_I) (L : Nat) {cz : Nat} (hc : cz ≠ 117 ∧ cz ≠ 130) (jz : Nat) : I_X12_textFault I L cz jz = I cz jz := by
  obtain ⟨hc0, hc1⟩ := hc
  simp only [I_X12_textFault]
  (repeat' split) <;> simp (disch := first | assumption | (simp only [ne_eq] at *; simp [*])) [tq_u, tq_cp, hc0, hc1, fr_X12_touches, fr_ta1, fr_X12_touchesAll, fr_cps1, fr_X12_copies, fr_sav, fr_bg1, fr_bg2, fr_X12_begins, fr_ly1, fr_X12_lays, fr_bgn1, fr_X12_begin, fr_X12_setCorner, fr_fi1, fr_X12_fill, fr_fg1, fr_X12_forgets, fr_rc1, fr_rc2, fr_X12_reaches, fr_mfl1, fr_X12_flood, fr_mrg1, fr_X12_regions, fr_mra1, fr_X12_raise, fr_sp1, fr_X12_setPath, fr_sr1, fr_sr2, fr_X12_setRank, fr_X12_becomes, fr_X12_setTiles, fr_X12_setVariants, fr_X12_setSeed, fr_X12_setBorder, fr_X12_makesUp, fr_X12_finds, fr_X12_parts, fr_put, fr_mfy2, fr_X12_findsLayers, fr_mfp1, fr_mfp2, fr_X12_findsPieces, fr_X12_layers, fr_X12_layer, fr_X12_pieces, fr_X12_piece, fr_X12_isStaleAt, fr_mpa1, fr_X12_paints, fr_X12_isStale, fr_mst2, fr_X12_stale, fr_mpt1, fr_X12_paint, fr_X12_paintCell, fr_mfk2, fr_mfk3, fr_X12_findsKinds, fr_X12_kinds, fr_X12_kind, fr_X12_undo, fr_X12_here, fr_X12_type, fr_X12_clearText, fr_X12_number, fr_mri1, fr_X12_readsItem, fr_rwS, fr_X12_readsRow, fr_raE, fr_X12_readsAll]
