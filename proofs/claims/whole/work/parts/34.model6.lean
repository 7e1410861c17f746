theorem fr_mu {t mk q : Nat} {cz : Nat} (hc : cz ≠ 124) (jz n : Nat) (a : Int32 × tq_I) : (tq_wr (f_mu2 t mk q) (d_mu2 t mk q) n a).2 cz jz = a.2 cz jz := by
  refine tq_wrI (f := f_mu2 t mk q) (d := d_mu2 t mk q) (fun b => b.2 cz jz = a.2 cz jz) (fun r => r.2 cz jz = a.2 cz jz) (fun b c hb h => ?_) (fun b r hb h => ?_) (fun b hb => hb) n a rfl
  · unfold f_mu2 at h
    (repeat' split at h) <;> first | (simp only [reduceCtorEq] at h; done) | (rw [← Sum.inl.inj h]; dsimp only; simp only [tq_u_cell hc]; exact hb)
  · unfold f_mu2 at h
    (repeat' split at h) <;> first | (simp only [reduceCtorEq, Sum.inr.injEq] at h; done) | (rw [← Sum.inl.inj (Sum.inr.inj h)]; dsimp only; simp only [tq_u_cell hc]; exact hb)
theorem fr_X12_makesUp (I : tq_I) (t mk q : Nat) {cz : Nat} (hc : cz ≠ 124) (jz : Nat) : I_X12_makesUp I t mk q cz jz = I cz jz := by
  unfold I_X12_makesUp
  have e := fr_mu (t := t) (mk := mk) (q := q) hc jz 90000 (nI 0, tq_u I 124 0 (nI 0))
  dsimp only at e
  rw [e, tq_u_cell hc]
def I_X12_finds (I : tq_I) (t mk : Nat) : tq_I := (if (r_X12_makesUp (tq_u I 117 10 (nI 1)) t mk 1) = 0 then (if (r_X12_makesUp (tq_u (I_X12_makesUp (tq_u I 117 10 (nI 1)) t mk 1) 117 10 (nI 2)) t mk 2) = 0 then (if (r_X12_makesUp (tq_u (I_X12_makesUp (tq_u (I_X12_makesUp (tq_u I 117 10 (nI 1)) t mk 1) 117 10 (nI 2)) t mk 2) 117 10 (nI 3)) t mk 3) = 0 then (if (r_X12_makesUp (tq_u (I_X12_makesUp (tq_u (I_X12_makesUp (tq_u (I_X12_makesUp (tq_u I 117 10 (nI 1)) t mk 1) 117 10 (nI 2)) t mk 2) 117 10 (nI 3)) t mk 3) 117 10 (nI 4)) t mk 4) = 0 then (tq_u (tq_u (tq_u (I_X12_makesUp (tq_u (I_X12_makesUp (tq_u (I_X12_makesUp (tq_u (I_X12_makesUp (tq_u I 117 10 (nI 1)) t mk 1) 117 10 (nI 2)) t mk 2) 117 10 (nI 3)) t mk 3) 117 10 (nI 4)) t mk 4) 117 10 (nI 5)) 117 10 (nI 1)) 124 0 (nI 15)) else (I_X12_makesUp (tq_u (I_X12_makesUp (tq_u (I_X12_makesUp (tq_u (I_X12_makesUp (tq_u I 117 10 (nI 1)) t mk 1) 117 10 (nI 2)) t mk 2) 117 10 (nI 3)) t mk 3) 117 10 (nI 4)) t mk 4)) else (I_X12_makesUp (tq_u (I_X12_makesUp (tq_u (I_X12_makesUp (tq_u I 117 10 (nI 1)) t mk 1) 117 10 (nI 2)) t mk 2) 117 10 (nI 3)) t mk 3)) else (I_X12_makesUp (tq_u (I_X12_makesUp (tq_u I 117 10 (nI 1)) t mk 1) 117 10 (nI 2)) t mk 2)) else (I_X12_makesUp (tq_u I 117 10 (nI 1)) t mk 1))
set_option maxRecDepth 20000 in
theorem c_X12_finds (g : tq_G) (I : tq_I) (J : Int64) (t mk : Nat) (ht : t ≤ 5) (hmk : mk ≤ 15) : CT g mX12_finds 3 0 0 [.ref 117, .int (nI t), .int (nI mk)] (tq_SC ++ tq_SR) tq_RR I J (tq_ret (tq_SC ++ tq_SR) tq_RR none (I_X12_finds I t mk) J) := by
  refine CT.ret kX12_finds (Nat.le_of_ble_eq_true rfl) (fun x0 C hR hZ => ?_)
  refine EV_en (lv' := [some (.ref 117), some (.int (nI t)), some (.int (nI mk))]) 0 rfl ?_
  refine EV_blk (own := 12) C rfl [(.aload_n 0, 0, 0, 0, 0), (.iconst 1, 0, 0, 0, (nI 1)), (.putfield 133, 12, 10, 909, 0)] (pc' := 5) (by decide +kernel) (lv' := [some (.ref 117), some (.int (nI t)), some (.int (nI mk))]) (st' := []) (I' := (tq_u I 117 10 (nI 1))) (J' := J) rfl ?_
  refine EV_blk (own := 12) C rfl [(.aload_n 0, 0, 0, 0, 0), (.getfield 133, 12, 10, 909, 0), (.iconst 5, 0, 0, 0, (nI 5))] (pc' := 10) (by decide +kernel) (lv' := [some (.ref 117), some (.int (nI t)), some (.int (nI mk))]) (st' := [.int (nI 5), .int ((tq_u I 117 10 (nI 1)) 117 10)]) (I' := (tq_u I 117 10 (nI 1))) (J' := J) rfl ?_
  refine EV_ste (st' := [.int (nI 5), .int (nI 1)]) (by rw [tq_u_same]) ?_
  refine EV_icmp_ge (off := 29) (tgt := 39) C (by decide +kernel) (by decide) (fun h1 => ?_) (fun h1 => ?_)
  · skip
    exact absurd h1 (by decide)
  · skip
    refine EV_blk (own := 12) C rfl [(.aload_n 0, 0, 0, 0, 0), (.iload_n 1, 0, 0, 0, 0), (.iload_n 2, 0, 0, 0, 0), (.aload_n 0, 0, 0, 0, 0), (.getfield 133, 12, 10, 909, 0)] (pc' := 20) (by decide +kernel) (lv' := [some (.ref 117), some (.int (nI t)), some (.int (nI mk))]) (st' := [.int ((tq_u I 117 10 (nI 1)) 117 10), .int (nI mk), .int (nI t), .ref 117]) (I' := (tq_u I 117 10 (nI 1))) (J' := J) rfl ?_
    refine EV_ste (st' := [.int (nI 1), .int (nI mk), .int (nI t), .ref 117]) (by rw [tq_u_same]) ?_
    refine EV_cV (own := 12) (idx := 136) (μ' := mX12_makesUp) (b := 117) (cb := 12) (av := [.int (nI t), .int (nI mk), .int (nI 1)]) (rest := []) C hR rfl (Or.inl ⟨1133, by decide⟩) kX12_makesUp sX12_makesUp (c_X12_makesUp g (tq_u I 117 10 (nI 1)) J t mk 1 (by omega) (by omega) (by omega) (by omega)) rfl rfl (by decide +kernel) rfl (by decide) (Nat.le_of_ble_eq_true rfl) rfl ⟨Nat.zero_le _, Nat.zero_le _⟩ ?_
    refine EV_if_ne (off := 16) (tgt := 39) C (by decide +kernel) (by decide) (fun h2 => ?_) (fun h2 => ?_)
    · skip
      refine EV_blk (own := 12) C rfl [(.aload_n 0, 0, 0, 0, 0), (.getfield 133, 12, 10, 909, 0), (.iconst 5, 0, 0, 0, (nI 5))] (pc' := 44) (by decide +kernel) (lv' := [some (.ref 117), some (.int (nI t)), some (.int (nI mk))]) (st' := [.int (nI 5), .int ((I_X12_makesUp (tq_u I 117 10 (nI 1)) t mk 1) 117 10)]) (I' := (I_X12_makesUp (tq_u I 117 10 (nI 1)) t mk 1)) (J' := J) rfl ?_
      refine EV_ste (st' := [.int (nI 5), .int (nI 1)]) (by rw [fr_X12_makesUp _ _ _ _ (by decide), tq_u_same]) ?_
      refine EV_icmp_ne (off := 16) (tgt := 60) C (by decide +kernel) (by decide) (fun h3 => ?_) (fun h3 => ?_)
      · skip
        exact EV_vret C hZ rfl (by decide +kernel) (Nat.le_refl _) (Nat.le_refl _) ⟨rfl, rfl, rfl, by simp only [I_X12_finds, if_neg h1, if_neg h2, if_neg h3], rfl⟩
      · skip
        exact absurd h3 (by decide)
    · skip
      refine EV_blk (own := 12) C rfl [(.aload_n 0, 0, 0, 0, 0), (.dup, 0, 0, 0, 0), (.getfield 133, 12, 10, 909, 0), (.iconst 1, 0, 0, 0, (nI 1)), (.iadd, 0, 0, 0, 0), (.putfield 133, 12, 10, 909, 0), (.goto (-31), 0, 0, 0, 0)] (pc' := 5) (by decide +kernel) (lv' := [some (.ref 117), some (.int (nI t)), some (.int (nI mk))]) (st' := []) (I' := (tq_u (I_X12_makesUp (tq_u I 117 10 (nI 1)) t mk 1) 117 10 (((I_X12_makesUp (tq_u I 117 10 (nI 1)) t mk 1) 117 10) + (nI 1)))) (J' := J) rfl ?_
      rw [show (((I_X12_makesUp (tq_u I 117 10 (nI 1)) t mk 1) 117 10) + (nI 1)) = (nI 2) from by rw [fr_X12_makesUp _ _ _ _ (by decide), tq_u_same, nI_add]]
      refine EV_blk (own := 12) C rfl [(.aload_n 0, 0, 0, 0, 0), (.getfield 133, 12, 10, 909, 0), (.iconst 5, 0, 0, 0, (nI 5))] (pc' := 10) (by decide +kernel) (lv' := [some (.ref 117), some (.int (nI t)), some (.int (nI mk))]) (st' := [.int (nI 5), .int ((tq_u (I_X12_makesUp (tq_u I 117 10 (nI 1)) t mk 1) 117 10 (nI 2)) 117 10)]) (I' := (tq_u (I_X12_makesUp (tq_u I 117 10 (nI 1)) t mk 1) 117 10 (nI 2))) (J' := J) rfl ?_
      refine EV_ste (st' := [.int (nI 5), .int (nI 2)]) (by rw [tq_u_same]) ?_
      refine EV_icmp_ge (off := 29) (tgt := 39) C (by decide +kernel) (by decide) (fun h4 => ?_) (fun h4 => ?_)
      · skip
        exact absurd h4 (by decide)
      · skip
        refine EV_blk (own := 12) C rfl [(.aload_n 0, 0, 0, 0, 0), (.iload_n 1, 0, 0, 0, 0), (.iload_n 2, 0, 0, 0, 0), (.aload_n 0, 0, 0, 0, 0), (.getfield 133, 12, 10, 909, 0)] (pc' := 20) (by decide +kernel) (lv' := [some (.ref 117), some (.int (nI t)), some (.int (nI mk))]) (st' := [.int ((tq_u (I_X12_makesUp (tq_u I 117 10 (nI 1)) t mk 1) 117 10 (nI 2)) 117 10), .int (nI mk), .int (nI t), .ref 117]) (I' := (tq_u (I_X12_makesUp (tq_u I 117 10 (nI 1)) t mk 1) 117 10 (nI 2))) (J' := J) rfl ?_
        refine EV_ste (st' := [.int (nI 2), .int (nI mk), .int (nI t), .ref 117]) (by rw [tq_u_same]) ?_
        refine EV_cV (own := 12) (idx := 136) (μ' := mX12_makesUp) (b := 117) (cb := 12) (av := [.int (nI t), .int (nI mk), .int (nI 2)]) (rest := []) C hR rfl (Or.inl ⟨1133, by decide⟩) kX12_makesUp sX12_makesUp (c_X12_makesUp g (tq_u (I_X12_makesUp (tq_u I 117 10 (nI 1)) t mk 1) 117 10 (nI 2)) J t mk 2 (by omega) (by omega) (by omega) (by omega)) rfl rfl (by decide +kernel) rfl (by decide) (Nat.le_of_ble_eq_true rfl) rfl ⟨Nat.zero_le _, Nat.zero_le _⟩ ?_
        refine EV_if_ne (off := 16) (tgt := 39) C (by decide +kernel) (by decide) (fun h5 => ?_) (fun h5 => ?_)
        · skip
          refine EV_blk (own := 12) C rfl [(.aload_n 0, 0, 0, 0, 0), (.getfield 133, 12, 10, 909, 0), (.iconst 5, 0, 0, 0, (nI 5))] (pc' := 44) (by decide +kernel) (lv' := [some (.ref 117), some (.int (nI t)), some (.int (nI mk))]) (st' := [.int (nI 5), .int ((I_X12_makesUp (tq_u (I_X12_makesUp (tq_u I 117 10 (nI 1)) t mk 1) 117 10 (nI 2)) t mk 2) 117 10)]) (I' := (I_X12_makesUp (tq_u (I_X12_makesUp (tq_u I 117 10 (nI 1)) t mk 1) 117 10 (nI 2)) t mk 2)) (J' := J) rfl ?_
          refine EV_ste (st' := [.int (nI 5), .int (nI 2)]) (by rw [fr_X12_makesUp _ _ _ _ (by decide), tq_u_same]) ?_
          refine EV_icmp_ne (off := 16) (tgt := 60) C (by decide +kernel) (by decide) (fun h6 => ?_) (fun h6 => ?_)
          · skip
            exact EV_vret C hZ rfl (by decide +kernel) (Nat.le_refl _) (Nat.le_refl _) ⟨rfl, rfl, rfl, by simp only [I_X12_finds, if_neg h1, if_pos h2, if_neg h4, if_neg h5, if_neg h6], rfl⟩
          · skip
            exact absurd h6 (by decide)
        · skip
          refine EV_blk (own := 12) C rfl [(.aload_n 0, 0, 0, 0, 0), (.dup, 0, 0, 0, 0), (.getfield 133, 12, 10, 909, 0), (.iconst 1, 0, 0, 0, (nI 1)), (.iadd, 0, 0, 0, 0), (.putfield 133, 12, 10, 909, 0), (.goto (-31), 0, 0, 0, 0)] (pc' := 5) (by decide +kernel) (lv' := [some (.ref 117), some (.int (nI t)), some (.int (nI mk))]) (st' := []) (I' := (tq_u (I_X12_makesUp (tq_u (I_X12_makesUp (tq_u I 117 10 (nI 1)) t mk 1) 117 10 (nI 2)) t mk 2) 117 10 (((I_X12_makesUp (tq_u (I_X12_makesUp (tq_u I 117 10 (nI 1)) t mk 1) 117 10 (nI 2)) t mk 2) 117 10) + (nI 1)))) (J' := J) rfl ?_
          rw [show (((I_X12_makesUp (tq_u (I_X12_makesUp (tq_u I 117 10 (nI 1)) t mk 1) 117 10 (nI 2)) t mk 2) 117 10) + (nI 1)) = (nI 3) from by rw [fr_X12_makesUp _ _ _ _ (by decide), tq_u_same, nI_add]]
          refine EV_blk (own := 12) C rfl [(.aload_n 0, 0, 0, 0, 0), (.getfield 133, 12, 10, 909, 0), (.iconst 5, 0, 0, 0, (nI 5))] (pc' := 10) (by decide +kernel) (lv' := [some (.ref 117), some (.int (nI t)), some (.int (nI mk))]) (st' := [.int (nI 5), .int ((tq_u (I_X12_makesUp (tq_u (I_X12_makesUp (tq_u I 117 10 (nI 1)) t mk 1) 117 10 (nI 2)) t mk 2) 117 10 (nI 3)) 117 10)]) (I' := (tq_u (I_X12_makesUp (tq_u (I_X12_makesUp (tq_u I 117 10 (nI 1)) t mk 1) 117 10 (nI 2)) t mk 2) 117 10 (nI 3))) (J' := J) rfl ?_
          refine EV_ste (st' := [.int (nI 5), .int (nI 3)]) (by rw [tq_u_same]) ?_
          refine EV_icmp_ge (off := 29) (tgt := 39) C (by decide +kernel) (by decide) (fun h7 => ?_) (fun h7 => ?_)
          · skip
            exact absurd h7 (by decide)
          · skip
            refine EV_blk (own := 12) C rfl [(.aload_n 0, 0, 0, 0, 0), (.iload_n 1, 0, 0, 0, 0), (.iload_n 2, 0, 0, 0, 0), (.aload_n 0, 0, 0, 0, 0), (.getfield 133, 12, 10, 909, 0)] (pc' := 20) (by decide +kernel) (lv' := [some (.ref 117), some (.int (nI t)), some (.int (nI mk))]) (st' := [.int ((tq_u (I_X12_makesUp (tq_u (I_X12_makesUp (tq_u I 117 10 (nI 1)) t mk 1) 117 10 (nI 2)) t mk 2) 117 10 (nI 3)) 117 10), .int (nI mk), .int (nI t), .ref 117]) (I' := (tq_u (I_X12_makesUp (tq_u (I_X12_makesUp (tq_u I 117 10 (nI 1)) t mk 1) 117 10 (nI 2)) t mk 2) 117 10 (nI 3))) (J' := J) rfl ?_
            refine EV_ste (st' := [.int (nI 3), .int (nI mk), .int (nI t), .ref 117]) (by rw [tq_u_same]) ?_
            refine EV_cV (own := 12) (idx := 136) (μ' := mX12_makesUp) (b := 117) (cb := 12) (av := [.int (nI t), .int (nI mk), .int (nI 3)]) (rest := []) C hR rfl (Or.inl ⟨1133, by decide⟩) kX12_makesUp sX12_makesUp (c_X12_makesUp g (tq_u (I_X12_makesUp (tq_u (I_X12_makesUp (tq_u I 117 10 (nI 1)) t mk 1) 117 10 (nI 2)) t mk 2) 117 10 (nI 3)) J t mk 3 (by omega) (by omega) (by omega) (by omega)) rfl rfl (by decide +kernel) rfl (by decide) (Nat.le_of_ble_eq_true rfl) rfl ⟨Nat.zero_le _, Nat.zero_le _⟩ ?_
            refine EV_if_ne (off := 16) (tgt := 39) C (by decide +kernel) (by decide) (fun h8 => ?_) (fun h8 => ?_)
            · skip
              refine EV_blk (own := 12) C rfl [(.aload_n 0, 0, 0, 0, 0), (.getfield 133, 12, 10, 909, 0), (.iconst 5, 0, 0, 0, (nI 5))] (pc' := 44) (by decide +kernel) (lv' := [some (.ref 117), some (.int (nI t)), some (.int (nI mk))]) (st' := [.int (nI 5), .int ((I_X12_makesUp (tq_u (I_X12_makesUp (tq_u (I_X12_makesUp (tq_u I 117 10 (nI 1)) t mk 1) 117 10 (nI 2)) t mk 2) 117 10 (nI 3)) t mk 3) 117 10)]) (I' := (I_X12_makesUp (tq_u (I_X12_makesUp (tq_u (I_X12_makesUp (tq_u I 117 10 (nI 1)) t mk 1) 117 10 (nI 2)) t mk 2) 117 10 (nI 3)) t mk 3)) (J' := J) rfl ?_
              refine EV_ste (st' := [.int (nI 5), .int (nI 3)]) (by rw [fr_X12_makesUp _ _ _ _ (by decide), tq_u_same]) ?_
              refine EV_icmp_ne (off := 16) (tgt := 60) C (by decide +kernel) (by decide) (fun h9 => ?_) (fun h9 => ?_)
              · skip
                exact EV_vret C hZ rfl (by decide +kernel) (Nat.le_refl _) (Nat.le_refl _) ⟨rfl, rfl, rfl, by simp only [I_X12_finds, if_neg h1, if_pos h2, if_neg h4, if_pos h5, if_neg h7, if_neg h8, if_neg h9], rfl⟩
              · skip
                exact absurd h9 (by decide)
            · skip
              refine EV_blk (own := 12) C rfl [(.aload_n 0, 0, 0, 0, 0), (.dup, 0, 0, 0, 0), (.getfield 133, 12, 10, 909, 0), (.iconst 1, 0, 0, 0, (nI 1)), (.iadd, 0, 0, 0, 0), (.putfield 133, 12, 10, 909, 0), (.goto (-31), 0, 0, 0, 0)] (pc' := 5) (by decide +kernel) (lv' := [some (.ref 117), some (.int (nI t)), some (.int (nI mk))]) (st' := []) (I' := (tq_u (I_X12_makesUp (tq_u (I_X12_makesUp (tq_u (I_X12_makesUp (tq_u I 117 10 (nI 1)) t mk 1) 117 10 (nI 2)) t mk 2) 117 10 (nI 3)) t mk 3) 117 10 (((I_X12_makesUp (tq_u (I_X12_makesUp (tq_u (I_X12_makesUp (tq_u I 117 10 (nI 1)) t mk 1) 117 10 (nI 2)) t mk 2) 117 10 (nI 3)) t mk 3) 117 10) + (nI 1)))) (J' := J) rfl ?_
              rw [show (((I_X12_makesUp (tq_u (I_X12_makesUp (tq_u (I_X12_makesUp (tq_u I 117 10 (nI 1)) t mk 1) 117 10 (nI 2)) t mk 2) 117 10 (nI 3)) t mk 3) 117 10) + (nI 1)) = (nI 4) from by rw [fr_X12_makesUp _ _ _ _ (by decide), tq_u_same, nI_add]]
              refine EV_blk (own := 12) C rfl [(.aload_n 0, 0, 0, 0, 0), (.getfield 133, 12, 10, 909, 0), (.iconst 5, 0, 0, 0, (nI 5))] (pc' := 10) (by decide +kernel) (lv' := [some (.ref 117), some (.int (nI t)), some (.int (nI mk))]) (st' := [.int (nI 5), .int ((tq_u (I_X12_makesUp (tq_u (I_X12_makesUp (tq_u (I_X12_makesUp (tq_u I 117 10 (nI 1)) t mk 1) 117 10 (nI 2)) t mk 2) 117 10 (nI 3)) t mk 3) 117 10 (nI 4)) 117 10)]) (I' := (tq_u (I_X12_makesUp (tq_u (I_X12_makesUp (tq_u (I_X12_makesUp (tq_u I 117 10 (nI 1)) t mk 1) 117 10 (nI 2)) t mk 2) 117 10 (nI 3)) t mk 3) 117 10 (nI 4))) (J' := J) rfl ?_
              refine EV_ste (st' := [.int (nI 5), .int (nI 4)]) (by rw [tq_u_same]) ?_
              refine EV_icmp_ge (off := 29) (tgt := 39) C (by decide +kernel) (by decide) (fun h10 => ?_) (fun h10 => ?_)
              · skip
                exact absurd h10 (by decide)
              · skip
                refine EV_blk (own := 12) C rfl [(.aload_n 0, 0, 0, 0, 0), (.iload_n 1, 0, 0, 0, 0), (.iload_n 2, 0, 0, 0, 0), (.aload_n 0, 0, 0, 0, 0), (.getfield 133, 12, 10, 909, 0)] (pc' := 20) (by decide +kernel) (lv' := [some (.ref 117), some (.int (nI t)), some (.int (nI mk))]) (st' := [.int ((tq_u (I_X12_makesUp (tq_u (I_X12_makesUp (tq_u (I_X12_makesUp (tq_u I 117 10 (nI 1)) t mk 1) 117 10 (nI 2)) t mk 2) 117 10 (nI 3)) t mk 3) 117 10 (nI 4)) 117 10), .int (nI mk), .int (nI t), .ref 117]) (I' := (tq_u (I_X12_makesUp (tq_u (I_X12_makesUp (tq_u (I_X12_makesUp (tq_u I 117 10 (nI 1)) t mk 1) 117 10 (nI 2)) t mk 2) 117 10 (nI 3)) t mk 3) 117 10 (nI 4))) (J' := J) rfl ?_
                refine EV_ste (st' := [.int (nI 4), .int (nI mk), .int (nI t), .ref 117]) (by rw [tq_u_same]) ?_
                refine EV_cV (own := 12) (idx := 136) (μ' := mX12_makesUp) (b := 117) (cb := 12) (av := [.int (nI t), .int (nI mk), .int (nI 4)]) (rest := []) C hR rfl (Or.inl ⟨1133, by decide⟩) kX12_makesUp sX12_makesUp (c_X12_makesUp g (tq_u (I_X12_makesUp (tq_u (I_X12_makesUp (tq_u (I_X12_makesUp (tq_u I 117 10 (nI 1)) t mk 1) 117 10 (nI 2)) t mk 2) 117 10 (nI 3)) t mk 3) 117 10 (nI 4)) J t mk 4 (by omega) (by omega) (by omega) (by omega)) rfl rfl (by decide +kernel) rfl (by decide) (Nat.le_of_ble_eq_true rfl) rfl ⟨Nat.zero_le _, Nat.zero_le _⟩ ?_
                refine EV_if_ne (off := 16) (tgt := 39) C (by decide +kernel) (by decide) (fun h11 => ?_) (fun h11 => ?_)
                · skip
                  refine EV_blk (own := 12) C rfl [(.aload_n 0, 0, 0, 0, 0), (.getfield 133, 12, 10, 909, 0), (.iconst 5, 0, 0, 0, (nI 5))] (pc' := 44) (by decide +kernel) (lv' := [some (.ref 117), some (.int (nI t)), some (.int (nI mk))]) (st' := [.int (nI 5), .int ((I_X12_makesUp (tq_u (I_X12_makesUp (tq_u (I_X12_makesUp (tq_u (I_X12_makesUp (tq_u I 117 10 (nI 1)) t mk 1) 117 10 (nI 2)) t mk 2) 117 10 (nI 3)) t mk 3) 117 10 (nI 4)) t mk 4) 117 10)]) (I' := (I_X12_makesUp (tq_u (I_X12_makesUp (tq_u (I_X12_makesUp (tq_u (I_X12_makesUp (tq_u I 117 10 (nI 1)) t mk 1) 117 10 (nI 2)) t mk 2) 117 10 (nI 3)) t mk 3) 117 10 (nI 4)) t mk 4)) (J' := J) rfl ?_
                  refine EV_ste (st' := [.int (nI 5), .int (nI 4)]) (by rw [fr_X12_makesUp _ _ _ _ (by decide), tq_u_same]) ?_
                  refine EV_icmp_ne (off := 16) (tgt := 60) C (by decide +kernel) (by decide) (fun h12 => ?_) (fun h12 => ?_)
                  · skip
                    exact EV_vret C hZ rfl (by decide +kernel) (Nat.le_refl _) (Nat.le_refl _) ⟨rfl, rfl, rfl, by simp only [I_X12_finds, if_neg h1, if_pos h2, if_neg h4, if_pos h5, if_neg h7, if_pos h8, if_neg h10, if_neg h11, if_neg h12], rfl⟩
                  · skip
                    exact absurd h12 (by decide)
                · skip
                  refine EV_blk (own := 12) C rfl [(.aload_n 0, 0, 0, 0, 0), (.dup, 0, 0, 0, 0), (.getfield 133, 12, 10, 909, 0), (.iconst 1, 0, 0, 0, (nI 1)), (.iadd, 0, 0, 0, 0), (.putfield 133, 12, 10, 909, 0), (.goto (-31), 0, 0, 0, 0)] (pc' := 5) (by decide +kernel) (lv' := [some (.ref 117), some (.int (nI t)), some (.int (nI mk))]) (st' := []) (I' := (tq_u (I_X12_makesUp (tq_u (I_X12_makesUp (tq_u (I_X12_makesUp (tq_u (I_X12_makesUp (tq_u I 117 10 (nI 1)) t mk 1) 117 10 (nI 2)) t mk 2) 117 10 (nI 3)) t mk 3) 117 10 (nI 4)) t mk 4) 117 10 (((I_X12_makesUp (tq_u (I_X12_makesUp (tq_u (I_X12_makesUp (tq_u (I_X12_makesUp (tq_u I 117 10 (nI 1)) t mk 1) 117 10 (nI 2)) t mk 2) 117 10 (nI 3)) t mk 3) 117 10 (nI 4)) t mk 4) 117 10) + (nI 1)))) (J' := J) rfl ?_
                  rw [show (((I_X12_makesUp (tq_u (I_X12_makesUp (tq_u (I_X12_makesUp (tq_u (I_X12_makesUp (tq_u I 117 10 (nI 1)) t mk 1) 117 10 (nI 2)) t mk 2) 117 10 (nI 3)) t mk 3) 117 10 (nI 4)) t mk 4) 117 10) + (nI 1)) = (nI 5) from by rw [fr_X12_makesUp _ _ _ _ (by decide), tq_u_same, nI_add]]
                  refine EV_blk (own := 12) C rfl [(.aload_n 0, 0, 0, 0, 0), (.getfield 133, 12, 10, 909, 0), (.iconst 5, 0, 0, 0, (nI 5))] (pc' := 10) (by decide +kernel) (lv' := [some (.ref 117), some (.int (nI t)), some (.int (nI mk))]) (st' := [.int (nI 5), .int ((tq_u (I_X12_makesUp (tq_u (I_X12_makesUp (tq_u (I_X12_makesUp (tq_u (I_X12_makesUp (tq_u I 117 10 (nI 1)) t mk 1) 117 10 (nI 2)) t mk 2) 117 10 (nI 3)) t mk 3) 117 10 (nI 4)) t mk 4) 117 10 (nI 5)) 117 10)]) (I' := (tq_u (I_X12_makesUp (tq_u (I_X12_makesUp (tq_u (I_X12_makesUp (tq_u (I_X12_makesUp (tq_u I 117 10 (nI 1)) t mk 1) 117 10 (nI 2)) t mk 2) 117 10 (nI 3)) t mk 3) 117 10 (nI 4)) t mk 4) 117 10 (nI 5))) (J' := J) rfl ?_
                  refine EV_ste (st' := [.int (nI 5), .int (nI 5)]) (by rw [tq_u_same]) ?_
                  refine EV_icmp_ge (off := 29) (tgt := 39) C (by decide +kernel) (by decide) (fun h13 => ?_) (fun h13 => ?_)
                  · skip
                    refine EV_blk (own := 12) C rfl [(.aload_n 0, 0, 0, 0, 0), (.getfield 133, 12, 10, 909, 0), (.iconst 5, 0, 0, 0, (nI 5))] (pc' := 44) (by decide +kernel) (lv' := [some (.ref 117), some (.int (nI t)), some (.int (nI mk))]) (st' := [.int (nI 5), .int ((tq_u (I_X12_makesUp (tq_u (I_X12_makesUp (tq_u (I_X12_makesUp (tq_u (I_X12_makesUp (tq_u I 117 10 (nI 1)) t mk 1) 117 10 (nI 2)) t mk 2) 117 10 (nI 3)) t mk 3) 117 10 (nI 4)) t mk 4) 117 10 (nI 5)) 117 10)]) (I' := (tq_u (I_X12_makesUp (tq_u (I_X12_makesUp (tq_u (I_X12_makesUp (tq_u (I_X12_makesUp (tq_u I 117 10 (nI 1)) t mk 1) 117 10 (nI 2)) t mk 2) 117 10 (nI 3)) t mk 3) 117 10 (nI 4)) t mk 4) 117 10 (nI 5))) (J' := J) rfl ?_
                    refine EV_ste (st' := [.int (nI 5), .int (nI 5)]) (by rw [tq_u_same]) ?_
                    refine EV_icmp_ne (off := 16) (tgt := 60) C (by decide +kernel) (by decide) (fun h14 => ?_) (fun h14 => ?_)
                    · skip
                      exact absurd (by decide) h14
                    · skip
                      refine EV_blk (own := 12) C rfl [(.aload_n 0, 0, 0, 0, 0), (.iconst 1, 0, 0, 0, (nI 1)), (.putfield 133, 12, 10, 909, 0), (.aload_n 0, 0, 0, 0, 0), (.getfield 29, 12, 9, 908, 0), (.iconst 0, 0, 0, 0, (nI 0)), (.bipush 15, 0, 0, 0, (nI 15))] (pc' := 59) (by decide +kernel) (lv' := [some (.ref 117), some (.int (nI t)), some (.int (nI mk))]) (st' := [.int (nI 15), .int (nI 0), .ref 124]) (I' := (tq_u (tq_u (I_X12_makesUp (tq_u (I_X12_makesUp (tq_u (I_X12_makesUp (tq_u (I_X12_makesUp (tq_u I 117 10 (nI 1)) t mk 1) 117 10 (nI 2)) t mk 2) 117 10 (nI 3)) t mk 3) 117 10 (nI 4)) t mk 4) 117 10 (nI 5)) 117 10 (nI 1))) (J' := J) rfl ?_
                      refine EV_iast (j := 0) C (by decide +kernel) rfl (nI_toInt (by omega)) (by omega) ?_
                      exact EV_vret C hZ rfl (by decide +kernel) (Nat.le_refl _) (Nat.le_refl _) ⟨rfl, rfl, rfl, by simp only [I_X12_finds, if_neg h1, if_pos h2, if_neg h4, if_pos h5, if_neg h7, if_pos h8, if_neg h10, if_pos h11, if_pos h13, if_pos h14], rfl⟩
                  · skip
                    exact absurd (by decide) h13
theorem fr_X12_finds (I : tq_I) (t mk : Nat) {cz : Nat} (hc : cz ≠ 117 ∧ cz ≠ 124) (jz : Nat) : I_X12_finds I t mk cz jz = I cz jz := by
  obtain ⟨hc0, hc1⟩ := hc
  simp only [I_X12_finds]
  (repeat' split) <;> simp (disch := first | assumption | (simp only [ne_eq] at *; simp [*])) [tq_u, tq_cp, hc0, hc1, fr_X12_touches, fr_ta1, fr_X12_touchesAll, fr_cps1, fr_X12_copies, fr_sav, fr_bg1, fr_bg2, fr_X12_begins, fr_ly1, fr_X12_lays, fr_bgn1, fr_X12_begin, fr_X12_setCorner, fr_fi1, fr_X12_fill, fr_fg1, fr_X12_forgets, fr_rc1, fr_rc2, fr_X12_reaches, fr_mfl1, fr_X12_flood, fr_mrg1, fr_X12_regions, fr_mra1, fr_X12_raise, fr_sp1, fr_X12_setPath, fr_sr1, fr_sr2, fr_X12_setRank, fr_X12_becomes, fr_X12_setTiles, fr_X12_setVariants, fr_X12_setSeed, fr_X12_setBorder, fr_X12_makesUp]
theorem tr_fpm (I : tq_I) (t mk : Nat) : ∃ p, 1 ≤ p ∧ p ≤ 4 ∧ I_X12_finds I t mk 117 10 = nI p := by
  unfold I_X12_finds
  split
  · split
    · split
      · split
        · exact ⟨1, by decide, by decide, by rw [tq_u_cell (by decide), tq_u_same]⟩
        · exact ⟨4, by decide, by decide, by rw [fr_X12_makesUp _ _ _ _ (by decide), tq_u_same]⟩
      · exact ⟨3, by decide, by decide, by rw [fr_X12_makesUp _ _ _ _ (by decide), tq_u_same]⟩
    · exact ⟨2, by decide, by decide, by rw [fr_X12_makesUp _ _ _ _ (by decide), tq_u_same]⟩
  · exact ⟨1, by decide, by decide, by rw [fr_X12_makesUp _ _ _ _ (by decide), tq_u_same]⟩
theorem fs_finds (I : tq_I) (t mk j : Nat) (hj : j ≠ 10) : I_X12_finds I t mk 117 j = I 117 j := by
  unfold I_X12_finds
  (repeat' split) <;> simp (disch := first | decide | exact hj) only [fr_X12_makesUp, tq_u_slot, tq_u_cell]
def r_X12_parts (I : tq_I) (t q : Int32) : Int32 := (if (tq_b ((nI 0).toInt ≤ t.toInt ∧ t.toInt ≤ (nI 5).toInt)) = 0 then (-2) else (if (tq_b ((nI 1).toInt ≤ q.toInt ∧ q.toInt ≤ (nI 15).toInt)) = 0 then (-3) else ((I_X12_finds I (tq_N t) (tq_N q)) 117 10)))
def I_X12_parts (I : tq_I) (t q : Int32) : tq_I := (if (tq_b ((nI 0).toInt ≤ t.toInt ∧ t.toInt ≤ (nI 5).toInt)) = 0 then I else (if (tq_b ((nI 1).toInt ≤ q.toInt ∧ q.toInt ≤ (nI 15).toInt)) = 0 then I else (I_X12_finds I (tq_N t) (tq_N q))))
set_option maxRecDepth 20000 in
theorem c_X12_parts (g : tq_G) (I : tq_I) (J : Int64) (t q : Int32)  : CT g mX12_parts 4 0 0 [.ref 117, .int t, .int q] (tq_SC ++ tq_SR) tq_RR I J (tq_ret (tq_SC ++ tq_SR) tq_RR (some (.int (r_X12_parts I t q))) (I_X12_parts I t q) J) := by
  refine CT.ret kX12_parts (Nat.le_of_ble_eq_true rfl) (fun x0 C hR hZ => ?_)
  refine EV_en (lv' := [some (.ref 117), some (.int t), some (.int q)]) 0 rfl ?_
  refine EV_blk (own := 12) C rfl [(.iload_n 1, 0, 0, 0, 0)] (pc' := 1) (by decide +kernel) (lv' := [some (.ref 117), some (.int t), some (.int q)]) (st' := [.int t]) (I' := I) (J' := J) rfl ?_
  refine EV_cS (own := 12) (idx := 80) (μ' := mX12_isTerrain) (av := [.int t]) (rest := []) C hR rfl (Or.inl ⟨983, by decide⟩) kX12_isTerrain sX12_isTerrain (c_X12_isTerrain g I J t ) (by decide +kernel) rfl (by decide) (Nat.le_of_ble_eq_true rfl) rfl ⟨Nat.zero_le _, Nat.zero_le _⟩ ?_
  refine EV_if_ne (off := 6) (tgt := 10) C (by decide +kernel) (by decide) (fun h1 => ?_) (fun h1 => ?_)
  · skip
    have ht := tq_t05 (tq_b10 h1)
    refine EV_blk (own := 12) C rfl [(.iload_n 2, 0, 0, 0, 0), (.iconst 1, 0, 0, 0, (nI 1)), (.bipush 15, 0, 0, 0, (nI 15))] (pc' := 14) (by decide +kernel) (lv' := [some (.ref 117), some (.int t), some (.int q)]) (st' := [.int (nI 15), .int (nI 1), .int q]) (I' := I) (J' := J) rfl ?_
    refine EV_cS (own := 12) (idx := 62) (μ' := mX12_in) (av := [.int q, .int (nI 1), .int (nI 15)]) (rest := []) C hR rfl (Or.inl ⟨896, by decide⟩) kX12_in sX12_in (c_X12_in g I J q (nI 1) (nI 15) ) (by decide +kernel) rfl (by decide) (Nat.le_of_ble_eq_true rfl) rfl ⟨Nat.zero_le _, Nat.zero_le _⟩ ?_
    refine EV_if_ne (off := 6) (tgt := 23) C (by decide +kernel) (by decide) (fun h2 => ?_) (fun h2 => ?_)
    · skip
      have hq := tq_w15 (tq_b10 h2)
      refine EV_lve (lv' := [some (.ref 117), some (.int (nI (tq_N t))), some (.int (nI (tq_N q)))]) (by rw [← tq_nIN ht.1, ← tq_nIN hq.1]) ?_
      refine EV_blk (own := 12) C rfl [(.aload_n 0, 0, 0, 0, 0), (.iload_n 1, 0, 0, 0, 0), (.iload_n 2, 0, 0, 0, 0)] (pc' := 26) (by decide +kernel) (lv' := [some (.ref 117), some (.int (nI (tq_N t))), some (.int (nI (tq_N q)))]) (st' := [.int (nI (tq_N q)), .int (nI (tq_N t)), .ref 117]) (I' := I) (J' := J) rfl ?_
      refine EV_cV (own := 12) (idx := 139) (μ' := mX12_finds) (b := 117) (cb := 12) (av := [.int (nI (tq_N t)), .int (nI (tq_N q))]) (rest := []) C hR rfl (Or.inl ⟨1129, by decide⟩) kX12_finds sX12_finds (c_X12_finds g I J (tq_N t) (tq_N q) (by omega) (by omega)) rfl rfl (by decide +kernel) rfl (by decide) (Nat.le_of_ble_eq_true rfl) rfl ⟨Nat.zero_le _, Nat.zero_le _⟩ ?_
      refine EV_blk (own := 12) C rfl [(.aload_n 0, 0, 0, 0, 0), (.getfield 133, 12, 10, 909, 0)] (pc' := 33) (by decide +kernel) (lv' := [some (.ref 117), some (.int (nI (tq_N t))), some (.int (nI (tq_N q)))]) (st' := [.int ((I_X12_finds I (tq_N t) (tq_N q)) 117 10)]) (I' := (I_X12_finds I (tq_N t) (tq_N q))) (J' := J) rfl ?_
      exact EV_iret C hZ rfl (by decide +kernel) (Nat.le_refl _) (Nat.le_refl _) ⟨tq_some (by simp only [r_X12_parts, if_neg h1, if_neg h2]), rfl, rfl, by simp only [I_X12_parts, if_neg h1, if_neg h2], rfl⟩
    · skip
      refine EV_blk (own := 12) C rfl [(.bipush (-3), 0, 0, 0, (-3))] (pc' := 22) (by decide +kernel) (lv' := [some (.ref 117), some (.int t), some (.int q)]) (st' := [.int (-3)]) (I' := I) (J' := J) rfl ?_
      exact EV_iret C hZ rfl (by decide +kernel) (Nat.le_refl _) (Nat.le_refl _) ⟨tq_some (by simp only [r_X12_parts, if_neg h1, if_pos h2]), rfl, rfl, by simp only [I_X12_parts, if_neg h1, if_pos h2], rfl⟩
  · skip
    refine EV_blk (own := 12) C rfl [(.bipush (-2), 0, 0, 0, (-2))] (pc' := 9) (by decide +kernel) (lv' := [some (.ref 117), some (.int t), some (.int q)]) (st' := [.int (-2)]) (I' := I) (J' := J) rfl ?_
    exact EV_iret C hZ rfl (by decide +kernel) (Nat.le_refl _) (Nat.le_refl _) ⟨tq_some (by simp only [r_X12_parts, if_pos h1]), rfl, rfl, by simp only [I_X12_parts, if_pos h1], rfl⟩
theorem fr_X12_parts (I : tq_I) (t q : Int32) {cz : Nat} (hc : cz ≠ 117 ∧ cz ≠ 124) (jz : Nat) : I_X12_parts I t q cz jz = I cz jz := by
  obtain ⟨hc0, hc1⟩ := hc
  simp only [I_X12_parts]
  (repeat' split) <;> simp (disch := first | assumption | (simp only [ne_eq] at *; simp [*])) [tq_u, tq_cp, hc0, hc1, fr_X12_touches, fr_ta1, fr_X12_touchesAll, fr_cps1, fr_X12_copies, fr_sav, fr_bg1, fr_bg2, fr_X12_begins, fr_ly1, fr_X12_lays, fr_bgn1, fr_X12_begin, fr_X12_setCorner, fr_fi1, fr_X12_fill, fr_fg1, fr_X12_forgets, fr_rc1, fr_rc2, fr_X12_reaches, fr_mfl1, fr_X12_flood, fr_mrg1, fr_X12_regions, fr_mra1, fr_X12_raise, fr_sp1, fr_X12_setPath, fr_sr1, fr_sr2, fr_X12_setRank, fr_X12_becomes, fr_X12_setTiles, fr_X12_setVariants, fr_X12_setSeed, fr_X12_setBorder, fr_X12_makesUp, fr_X12_finds]
set_option maxRecDepth 20000 in
theorem c_X12_cornerAt (g : tq_G) (I : tq_I) (J : Int64) (x y b : Nat) (hx : x ≤ 9) (hy : y ≤ 9) (hb : b < 4) : CT g mX12_cornerAt 1 0 0 [.ref 117, .int (nI x), .int (nI y), .int (nI b)] (tq_SC ++ tq_SR) tq_RR I J (tq_ret (tq_SC ++ tq_SR) tq_RR (some (.int (I 118 (22 + 11 * (y + b / 2) + (x + b % 2))))) I J) := by
  refine CT.ret kX12_cornerAt (Nat.le_of_ble_eq_true rfl) (fun x0 C hR hZ => ?_)
  refine EV_en (lv' := [some (.ref 117), some (.int (nI x)), some (.int (nI y)), some (.int (nI b))]) 0 rfl ?_
  refine EV_blk (own := 12) C rfl [(.aload_n 0, 0, 0, 0, 0), (.iload_n 1, 0, 0, 0, 0), (.iload_n 3, 0, 0, 0, 0), (.iconst 2, 0, 0, 0, (nI 2))] (pc' := 4) (by decide +kernel) (lv' := [some (.ref 117), some (.int (nI x)), some (.int (nI y)), some (.int (nI b))]) (st' := [.int (nI 2), .int (nI b), .int (nI x), .ref 117]) (I' := I) (J' := J) rfl ?_
  refine EV_irem C (by decide +kernel) (by decide) ?_
  refine EV_blk (own := 12) C rfl [(.iadd, 0, 0, 0, 0), (.iload_n 2, 0, 0, 0, 0), (.iload_n 3, 0, 0, 0, 0), (.iconst 2, 0, 0, 0, (nI 2))] (pc' := 9) (by decide +kernel) (lv' := [some (.ref 117), some (.int (nI x)), some (.int (nI y)), some (.int (nI b))]) (st' := [.int (nI 2), .int (nI b), .int (nI y), .int ((nI x) + (tq_rem (nI b) (nI 2))), .ref 117]) (I' := I) (J' := J) rfl ?_
  refine EV_idiv C (by decide +kernel) (by decide) ?_
  refine EV_blk (own := 12) C rfl [(.iadd, 0, 0, 0, 0)] (pc' := 11) (by decide +kernel) (lv' := [some (.ref 117), some (.int (nI x)), some (.int (nI y)), some (.int (nI b))]) (st' := [.int ((nI y) + ((nI b) / (nI 2))), .int ((nI x) + (tq_rem (nI b) (nI 2))), .ref 117]) (I' := I) (J' := J) rfl ?_
  rw [show ((nI y) + ((nI b) / (nI 2))) = (nI (y + (b / 2))) from by simp (disch := omega) only [nI_add, tq_mul, tq_rem_nI, tq_div_nI, tq_sub_nI]]
  rw [show ((nI x) + (tq_rem (nI b) (nI 2))) = (nI (x + (b % 2))) from by simp (disch := omega) only [nI_add, tq_mul, tq_rem_nI, tq_div_nI, tq_sub_nI]]
  refine EV_cV (own := 12) (idx := 76) (μ' := mX12_cornerOf) (b := 117) (cb := 12) (av := [.int (nI (x + (b % 2))), .int (nI (y + (b / 2)))]) (rest := []) C hR rfl (Or.inl ⟨1006, by decide⟩) kX12_cornerOf sX12_cornerOf (c_X12_cornerOf g I J (x + (b % 2)) (y + (b / 2)) (by omega) (by omega)) rfl rfl (by decide +kernel) rfl (by decide) (Nat.le_of_ble_eq_true rfl) rfl ⟨Nat.zero_le _, Nat.zero_le _⟩ ?_
  exact EV_iret C hZ rfl (by decide +kernel) (Nat.le_refl _) (Nat.le_refl _) ⟨rfl, rfl, rfl, rfl, rfl⟩
def tr_var (I : tq_I) : Prop := ∀ t, t ≤ 5 → ¬ I 118 (16 + t) = 0
/-- what the reference's searches want of the present state -/
def tr_bas (I : tq_I) (w h : Nat) : Prop := tr_wh I w h ∧ tr_ord I ∧ tr_ter I ∧ tr_var I
theorem tr_bas.cong {I K : tq_I} {w h : Nat} (k : tr_bas I w h) (e : ∀ j, j < 143 → K 118 j = I 118 j) : tr_bas K w h :=
  ⟨k.1.cong (e 0 (by decide)) (e 1 (by decide)), k.2.1.cong (fun j _ h2 => e j (by omega)), k.2.2.1.cong (fun j _ h2 => e j h2), fun t ht => by rw [e _ (by omega)]; exact k.2.2.2 t ht⟩
theorem tr_bas.fr {I K : tq_I} {w h : Nat} (k : tr_bas I w h) (e : ∀ j, K 118 j = I 118 j) : tr_bas K w h := k.cong (fun j _ => e j)
theorem tr_bas.at {I : tq_I} {w h : Nat} (k : tr_bas I w h) {x y b : Nat} (hx : x ≤ 9) (hy : y ≤ 9) (hb : b < 4) : ∃ r, r ≤ 5 ∧ I 118 (4 + r) = I 118 (22 + 11 * (y + b / 2) + (x + b % 2)) := by
  obtain ⟨r, hr, e⟩ := k.2.1.has (k.2.2.1.at (x := x + b % 2) (y := y + b / 2) (by omega) (by omega))
  exact ⟨r, hr, e⟩
theorem tr_rk_cong {I K : tq_I} {t : Int32} (e : ∀ j, 4 ≤ j → j < 10 → K 118 j = I 118 j) : tr_rk K t = tr_rk I t := by
  unfold tr_rk
  rw [e _ (by decide) (by decide), e _ (by decide) (by decide), e _ (by decide) (by decide), e _ (by decide) (by decide), e _ (by decide) (by decide)]
/-- the rank at a cell's corner -/
def tr_cr (I : tq_I) (x y b : Nat) : Nat := tr_rk I (I 118 (22 + 11 * (y + b / 2) + (x + b % 2)))
theorem tr_cr5 (I : tq_I) (x y b : Nat) : tr_cr I x y b < 6 := by
  have := tr_rk5 I (I 118 (22 + 11 * (y + b / 2) + (x + b % 2)))
  unfold tr_cr
  omega
theorem tr_cr_cong {I K : tq_I} {x y b : Nat} (e : ∀ j, K 118 j = I 118 j) : tr_cr K x y b = tr_cr I x y b := by
  unfold tr_cr
  rw [tr_rk_cong (fun j _ _ => e j), e]
/-- how many of the ranks below i are found at the corners -/
def tr_lc (a b c d : Nat) : Nat → Nat
  | 0 => 0
  | i + 1 => tr_lc a b c d i + (if a = i ∨ b = i ∨ c = i ∨ d = i then 1 else 0)
theorem tr_r6 {p : Nat → Bool} (h : (List.range 6).all p = true) : ∀ i, i < 6 → p i = true := fun i hi => List.all_eq_true.mp h i (List.mem_range.mpr hi)
theorem tr_lc4a : ∀ a, a < 6 → ∀ b, b < 6 → ∀ c, c < 6 → ∀ d, d < 6 → ((List.range 6).all fun i => !(decide (a = i ∨ b = i ∨ c = i ∨ d = i)) || decide (tr_lc a b c d i < 4)) = true := by decide +kernel
theorem tr_lc4 (a : Nat) (ha : a < 6) (b : Nat) (hb : b < 6) (c : Nat) (hc : c < 6) (d : Nat) (hd : d < 6) (i : Nat) (hi : i < 6) (h : a = i ∨ b = i ∨ c = i ∨ d = i) : tr_lc a b c d i < 4 := by
  have q := tr_r6 (tr_lc4a a ha b hb c hc d hd) i hi
  rw [decide_eq_true h] at q
  exact of_decide_eq_true q
theorem tr_lc4' : ∀ a, a < 6 → ∀ b, b < 6 → ∀ c, c < 6 → ∀ d, d < 6 → tr_lc a b c d 6 ≤ 4 := by decide +kernel
def tr_lcI (I : tq_I) (x y i : Nat) : Nat := tr_lc (tr_cr I x y 0) (tr_cr I x y 1) (tr_cr I x y 2) (tr_cr I x y 3) i
def f_mfy1 (I : tq_I) (x y r : Nat) (w h : Nat) (i : Nat) (a : Int32 × Int32) : Int32 × Int32 := (if a.1 = 0 then (if (nI (tr_rk I (I 118 (22 + 11 * (y + i / 2) + (x + i % 2))))) = (nI r) then (if (nI (tr_rk I (I 118 (22 + 11 * (y + i / 2) + (x + i % 2))))) < (nI r) then ((nI 1), (a.2 ||| (nI 0))) else ((nI 1), (a.2 ||| ((nI 1) <<< ((nI i) &&& 31))))) else (if (nI (tr_rk I (I 118 (22 + 11 * (y + i / 2) + (x + i % 2))))) < (nI r) then ((nI 0), (a.2 ||| (nI 0))) else ((nI 0), (a.2 ||| ((nI 1) <<< ((nI i) &&& 31)))))) else (if (nI (tr_rk I (I 118 (22 + 11 * (y + i / 2) + (x + i % 2))))) < (nI r) then ((nI 1), (a.2 ||| (nI 0))) else ((nI 1), (a.2 ||| ((nI 1) <<< ((nI i) &&& 31))))))
set_option maxRecDepth 20000 in
theorem lp_mfy1 {g : tq_G} {x0 : tq_X} (C : tq_C g mX12_findsLayers x0) (hR : tq_ht x0 2 0 0) (I : tq_I) (J : Int64) (x y r : Nat) (w h : Nat) (hx : x ≤ 9) (hy : y ≤ 9) (hr : r < 6) (k : tr_bas I w h) : ∀ (n i : Nat) (a : Int32 × Int32), i + n = 4 → EV g mX12_findsLayers x0 0 0 85 [some (.ref 117), some (.int (nI x)), some (.int (nI y)), some (.int (nI r)), some (.int ((tq_it (f_mfy1 I x y r w h) n i a).1)), some (.int ((tq_it (f_mfy1 I x y r w h) n i a).2)), some (.int (nI (i + n))), none] [] (tq_SC ++ tq_SR) tq_RR I J → EV g mX12_findsLayers x0 0 0 22 [some (.ref 117), some (.int (nI x)), some (.int (nI y)), some (.int (nI r)), some (.int a.1), some (.int a.2), some (.int (nI i)), none] [] (tq_SC ++ tq_SR) tq_RR I J := by
  intro n
  induction n with
  | zero =>
    intro i a hi kk
    rw [Nat.add_zero] at kk
    refine EV_blk (own := 12) C rfl [(.iload 6, 0, 0, 0, 0), (.iconst 4, 0, 0, 0, (nI 4))] (pc' := 25) (by decide +kernel) (lv' := [some (.ref 117), some (.int (nI x)), some (.int (nI y)), some (.int (nI r)), some (.int a.1), some (.int a.2), some (.int (nI i)), none]) (st' := [.int (nI 4), .int (nI i)]) (I' := I) (J' := J) rfl ?_
    refine EV_icmp_ge (off := 60) (tgt := 85) C (by decide +kernel) (by decide) (fun h1 => ?_) (fun h1 => ?_)
    · skip
      exact kk
    · skip
      exact absurd h1 (by simp (disch := omega) only [Int32.lt_iff_toInt_lt, Int32.le_iff_toInt_le, Int32.toInt_zero, nI_toInt, tq_m1]; omega)
  | succ n ih =>
    intro i a hi kk
    rw [show i + (n + 1) = (i + 1) + n by omega] at kk
    refine EV_blk (own := 12) C rfl [(.iload 6, 0, 0, 0, 0), (.iconst 4, 0, 0, 0, (nI 4))] (pc' := 25) (by decide +kernel) (lv' := [some (.ref 117), some (.int (nI x)), some (.int (nI y)), some (.int (nI r)), some (.int a.1), some (.int a.2), some (.int (nI i)), none]) (st' := [.int (nI 4), .int (nI i)]) (I' := I) (J' := J) rfl ?_
    refine EV_icmp_ge (off := 60) (tgt := 85) C (by decide +kernel) (by decide) (fun h1 => ?_) (fun h1 => ?_)
    · skip
      exact absurd h1 (by simp (disch := omega) only [Int32.lt_iff_toInt_lt, Int32.le_iff_toInt_le, Int32.toInt_zero, nI_toInt, tq_m1]; omega)
    · skip
      refine EV_blk (own := 12) C rfl [(.aload_n 0, 0, 0, 0, 0), (.aload_n 0, 0, 0, 0, 0), (.iload_n 1, 0, 0, 0, 0), (.iload_n 2, 0, 0, 0, 0), (.iload 6, 0, 0, 0, 0)] (pc' := 34) (by decide +kernel) (lv' := [some (.ref 117), some (.int (nI x)), some (.int (nI y)), some (.int (nI r)), some (.int a.1), some (.int a.2), some (.int (nI i)), none]) (st' := [.int (nI i), .int (nI y), .int (nI x), .ref 117, .ref 117]) (I' := I) (J' := J) rfl ?_
      refine EV_cV (own := 12) (idx := 145) (μ' := mX12_cornerAt) (b := 117) (cb := 12) (av := [.int (nI x), .int (nI y), .int (nI i)]) (rest := [.ref 117]) C hR rfl (Or.inl ⟨1145, by decide⟩) kX12_cornerAt sX12_cornerAt (c_X12_cornerAt g I J x y i (by omega) (by omega) (by omega)) rfl rfl (by decide +kernel) rfl (by decide) (Nat.le_of_ble_eq_true rfl) rfl ⟨Nat.zero_le _, Nat.zero_le _⟩ ?_
      refine EV_cV (own := 12) (idx := 103) (μ' := mX12_rankOf) (b := 117) (cb := 12) (av := [.int (I 118 (22 + 11 * (y + i / 2) + (x + i % 2)))]) (rest := []) C hR rfl (Or.inl ⟨1042, by decide⟩) kX12_rankOf sX12_rankOf (c_rankOf g I J (I 118 (22 + 11 * (y + i / 2) + (x + i % 2))) (k.at (by omega) (by omega) (by omega))) rfl rfl (by decide +kernel) rfl (by decide) (Nat.le_of_ble_eq_true rfl) rfl ⟨Nat.zero_le _, Nat.zero_le _⟩ ?_
      refine EV_blk (own := 12) C rfl [(.istore 7, 0, 0, 0, 0), (.iload 4, 0, 0, 0, 0)] (pc' := 44) (by decide +kernel) (lv' := [some (.ref 117), some (.int (nI x)), some (.int (nI y)), some (.int (nI r)), some (.int a.1), some (.int a.2), some (.int (nI i)), some (.int (nI (tr_rk I (I 118 (22 + 11 * (y + i / 2) + (x + i % 2))))))]) (st' := [.int a.1]) (I' := I) (J' := J) rfl ?_
      refine EV_if_ne (off := 9) (tgt := 53) C (by decide +kernel) (by decide) (fun h2 => ?_) (fun h2 => ?_)
      · skip
        refine EV_blk (own := 12) C rfl [(.iconst 1, 0, 0, 0, (nI 1)), (.goto 4, 0, 0, 0, 0), (.istore 4, 0, 0, 0, 0), (.iload 5, 0, 0, 0, 0), (.iload 7, 0, 0, 0, 0), (.iload_n 3, 0, 0, 0, 0)] (pc' := 65) (by decide +kernel) (lv' := [some (.ref 117), some (.int (nI x)), some (.int (nI y)), some (.int (nI r)), some (.int (nI 1)), some (.int a.2), some (.int (nI i)), some (.int (nI (tr_rk I (I 118 (22 + 11 * (y + i / 2) + (x + i % 2))))))]) (st' := [.int (nI r), .int (nI (tr_rk I (I 118 (22 + 11 * (y + i / 2) + (x + i % 2))))), .int a.2]) (I' := I) (J' := J) rfl ?_
        refine EV_icmp_lt (off := 10) (tgt := 75) C (by decide +kernel) (by decide) (fun h3 => ?_) (fun h3 => ?_)
        · skip
          refine EV_blk (own := 12) C rfl [(.iconst 0, 0, 0, 0, (nI 0)), (.ior, 0, 0, 0, 0), (.istore 5, 0, 0, 0, 0), (.iinc 6 1, 0, 0, 0, (nI 1)), (.goto (-60), 0, 0, 0, 0)] (pc' := 22) (by decide +kernel) (lv' := [some (.ref 117), some (.int (nI x)), some (.int (nI y)), some (.int (nI r)), some (.int (nI 1)), some (.int (a.2 ||| (nI 0))), some (.int ((nI i) + (nI 1))), some (.int (nI (tr_rk I (I 118 (22 + 11 * (y + i / 2) + (x + i % 2))))))]) (st' := []) (I' := I) (J' := J) rfl ?_
          refine EV_fg (lv' := [some (.ref 117), some (.int (nI x)), some (.int (nI y)), some (.int (nI r)), some (.int (nI 1)), some (.int (a.2 ||| (nI 0))), some (.int ((nI i) + (nI 1))), none]) ⟨rfl, rfl, rfl, rfl, rfl, rfl, rfl, trivial⟩ ?_
          rw [show ((nI i) + (nI 1)) = (nI (i + 1)) from by simp (disch := omega) only [nI_add, tq_mul] <;> exact congrArg nI (by omega)]
          rw [tq_its, show (f_mfy1 I x y r w h) i a = ((nI 1), (a.2 ||| (nI 0))) from by simp only [f_mfy1, if_neg h1, if_neg h2, if_pos h3]] at kk
          have ihx := ih (i + 1) ((nI 1), (a.2 ||| (nI 0))) (by omega)
          dsimp only at ihx
          exact ihx kk
        · skip
          refine EV_blk (own := 12) C rfl [(.iconst 1, 0, 0, 0, (nI 1)), (.iload 6, 0, 0, 0, 0), (.ishl, 0, 0, 0, 0), (.goto 4, 0, 0, 0, 0), (.ior, 0, 0, 0, 0), (.istore 5, 0, 0, 0, 0), (.iinc 6 1, 0, 0, 0, (nI 1)), (.goto (-60), 0, 0, 0, 0)] (pc' := 22) (by decide +kernel) (lv' := [some (.ref 117), some (.int (nI x)), some (.int (nI y)), some (.int (nI r)), some (.int (nI 1)), some (.int (a.2 ||| ((nI 1) <<< ((nI i) &&& 31)))), some (.int ((nI i) + (nI 1))), some (.int (nI (tr_rk I (I 118 (22 + 11 * (y + i / 2) + (x + i % 2))))))]) (st' := []) (I' := I) (J' := J) rfl ?_
          refine EV_fg (lv' := [some (.ref 117), some (.int (nI x)), some (.int (nI y)), some (.int (nI r)), some (.int (nI 1)), some (.int (a.2 ||| ((nI 1) <<< ((nI i) &&& 31)))), some (.int ((nI i) + (nI 1))), none]) ⟨rfl, rfl, rfl, rfl, rfl, rfl, rfl, trivial⟩ ?_
          rw [show ((nI i) + (nI 1)) = (nI (i + 1)) from by simp (disch := omega) only [nI_add, tq_mul] <;> exact congrArg nI (by omega)]
          rw [tq_its, show (f_mfy1 I x y r w h) i a = ((nI 1), (a.2 ||| ((nI 1) <<< ((nI i) &&& 31)))) from by simp only [f_mfy1, if_neg h1, if_neg h2, if_neg h3]] at kk
          have ihx := ih (i + 1) ((nI 1), (a.2 ||| ((nI 1) <<< ((nI i) &&& 31)))) (by omega)
          dsimp only at ihx
          exact ihx kk
      · skip
        refine EV_blk (own := 12) C rfl [(.iload 7, 0, 0, 0, 0), (.iload_n 3, 0, 0, 0, 0)] (pc' := 50) (by decide +kernel) (lv' := [some (.ref 117), some (.int (nI x)), some (.int (nI y)), some (.int (nI r)), some (.int a.1), some (.int a.2), some (.int (nI i)), some (.int (nI (tr_rk I (I 118 (22 + 11 * (y + i / 2) + (x + i % 2))))))]) (st' := [.int (nI r), .int (nI (tr_rk I (I 118 (22 + 11 * (y + i / 2) + (x + i % 2)))))]) (I' := I) (J' := J) rfl ?_
        refine EV_icmp_ne (off := 7) (tgt := 57) C (by decide +kernel) (by decide) (fun h4 => ?_) (fun h4 => ?_)
        · skip
          refine EV_blk (own := 12) C rfl [(.iconst 0, 0, 0, 0, (nI 0)), (.istore 4, 0, 0, 0, 0), (.iload 5, 0, 0, 0, 0), (.iload 7, 0, 0, 0, 0), (.iload_n 3, 0, 0, 0, 0)] (pc' := 65) (by decide +kernel) (lv' := [some (.ref 117), some (.int (nI x)), some (.int (nI y)), some (.int (nI r)), some (.int (nI 0)), some (.int a.2), some (.int (nI i)), some (.int (nI (tr_rk I (I 118 (22 + 11 * (y + i / 2) + (x + i % 2))))))]) (st' := [.int (nI r), .int (nI (tr_rk I (I 118 (22 + 11 * (y + i / 2) + (x + i % 2))))), .int a.2]) (I' := I) (J' := J) rfl ?_
          refine EV_icmp_lt (off := 10) (tgt := 75) C (by decide +kernel) (by decide) (fun h5 => ?_) (fun h5 => ?_)
          · skip
            refine EV_blk (own := 12) C rfl [(.iconst 0, 0, 0, 0, (nI 0)), (.ior, 0, 0, 0, 0), (.istore 5, 0, 0, 0, 0), (.iinc 6 1, 0, 0, 0, (nI 1)), (.goto (-60), 0, 0, 0, 0)] (pc' := 22) (by decide +kernel) (lv' := [some (.ref 117), some (.int (nI x)), some (.int (nI y)), some (.int (nI r)), some (.int (nI 0)), some (.int (a.2 ||| (nI 0))), some (.int ((nI i) + (nI 1))), some (.int (nI (tr_rk I (I 118 (22 + 11 * (y + i / 2) + (x + i % 2))))))]) (st' := []) (I' := I) (J' := J) rfl ?_
            refine EV_fg (lv' := [some (.ref 117), some (.int (nI x)), some (.int (nI y)), some (.int (nI r)), some (.int (nI 0)), some (.int (a.2 ||| (nI 0))), some (.int ((nI i) + (nI 1))), none]) ⟨rfl, rfl, rfl, rfl, rfl, rfl, rfl, trivial⟩ ?_
            rw [show ((nI i) + (nI 1)) = (nI (i + 1)) from by simp (disch := omega) only [nI_add, tq_mul] <;> exact congrArg nI (by omega)]
            rw [tq_its, show (f_mfy1 I x y r w h) i a = ((nI 0), (a.2 ||| (nI 0))) from by simp only [f_mfy1, if_neg h1, if_pos h2, if_neg h4, if_pos h5]] at kk
            have ihx := ih (i + 1) ((nI 0), (a.2 ||| (nI 0))) (by omega)
            dsimp only at ihx
            exact ihx kk
          · skip
            refine EV_blk (own := 12) C rfl [(.iconst 1, 0, 0, 0, (nI 1)), (.iload 6, 0, 0, 0, 0), (.ishl, 0, 0, 0, 0), (.goto 4, 0, 0, 0, 0), (.ior, 0, 0, 0, 0), (.istore 5, 0, 0, 0, 0), (.iinc 6 1, 0, 0, 0, (nI 1)), (.goto (-60), 0, 0, 0, 0)] (pc' := 22) (by decide +kernel) (lv' := [some (.ref 117), some (.int (nI x)), some (.int (nI y)), some (.int (nI r)), some (.int (nI 0)), some (.int (a.2 ||| ((nI 1) <<< ((nI i) &&& 31)))), some (.int ((nI i) + (nI 1))), some (.int (nI (tr_rk I (I 118 (22 + 11 * (y + i / 2) + (x + i % 2))))))]) (st' := []) (I' := I) (J' := J) rfl ?_
            refine EV_fg (lv' := [some (.ref 117), some (.int (nI x)), some (.int (nI y)), some (.int (nI r)), some (.int (nI 0)), some (.int (a.2 ||| ((nI 1) <<< ((nI i) &&& 31)))), some (.int ((nI i) + (nI 1))), none]) ⟨rfl, rfl, rfl, rfl, rfl, rfl, rfl, trivial⟩ ?_
            rw [show ((nI i) + (nI 1)) = (nI (i + 1)) from by simp (disch := omega) only [nI_add, tq_mul] <;> exact congrArg nI (by omega)]
            rw [tq_its, show (f_mfy1 I x y r w h) i a = ((nI 0), (a.2 ||| ((nI 1) <<< ((nI i) &&& 31)))) from by simp only [f_mfy1, if_neg h1, if_pos h2, if_neg h4, if_neg h5]] at kk
            have ihx := ih (i + 1) ((nI 0), (a.2 ||| ((nI 1) <<< ((nI i) &&& 31)))) (by omega)
            dsimp only at ihx
            exact ihx kk
        · skip
          refine EV_blk (own := 12) C rfl [(.iconst 1, 0, 0, 0, (nI 1)), (.goto 4, 0, 0, 0, 0), (.istore 4, 0, 0, 0, 0), (.iload 5, 0, 0, 0, 0), (.iload 7, 0, 0, 0, 0), (.iload_n 3, 0, 0, 0, 0)] (pc' := 65) (by decide +kernel) (lv' := [some (.ref 117), some (.int (nI x)), some (.int (nI y)), some (.int (nI r)), some (.int (nI 1)), some (.int a.2), some (.int (nI i)), some (.int (nI (tr_rk I (I 118 (22 + 11 * (y + i / 2) + (x + i % 2))))))]) (st' := [.int (nI r), .int (nI (tr_rk I (I 118 (22 + 11 * (y + i / 2) + (x + i % 2))))), .int a.2]) (I' := I) (J' := J) rfl ?_
          refine EV_icmp_lt (off := 10) (tgt := 75) C (by decide +kernel) (by decide) (fun h6 => ?_) (fun h6 => ?_)
          · skip
            refine EV_blk (own := 12) C rfl [(.iconst 0, 0, 0, 0, (nI 0)), (.ior, 0, 0, 0, 0), (.istore 5, 0, 0, 0, 0), (.iinc 6 1, 0, 0, 0, (nI 1)), (.goto (-60), 0, 0, 0, 0)] (pc' := 22) (by decide +kernel) (lv' := [some (.ref 117), some (.int (nI x)), some (.int (nI y)), some (.int (nI r)), some (.int (nI 1)), some (.int (a.2 ||| (nI 0))), some (.int ((nI i) + (nI 1))), some (.int (nI (tr_rk I (I 118 (22 + 11 * (y + i / 2) + (x + i % 2))))))]) (st' := []) (I' := I) (J' := J) rfl ?_
            refine EV_fg (lv' := [some (.ref 117), some (.int (nI x)), some (.int (nI y)), some (.int (nI r)), some (.int (nI 1)), some (.int (a.2 ||| (nI 0))), some (.int ((nI i) + (nI 1))), none]) ⟨rfl, rfl, rfl, rfl, rfl, rfl, rfl, trivial⟩ ?_
            rw [show ((nI i) + (nI 1)) = (nI (i + 1)) from by simp (disch := omega) only [nI_add, tq_mul] <;> exact congrArg nI (by omega)]
            rw [tq_its, show (f_mfy1 I x y r w h) i a = ((nI 1), (a.2 ||| (nI 0))) from by simp only [f_mfy1, if_neg h1, if_pos h2, if_pos h4, if_pos h6]] at kk
            have ihx := ih (i + 1) ((nI 1), (a.2 ||| (nI 0))) (by omega)
            dsimp only at ihx
            exact ihx kk
          · skip
            refine EV_blk (own := 12) C rfl [(.iconst 1, 0, 0, 0, (nI 1)), (.iload 6, 0, 0, 0, 0), (.ishl, 0, 0, 0, 0), (.goto 4, 0, 0, 0, 0), (.ior, 0, 0, 0, 0), (.istore 5, 0, 0, 0, 0), (.iinc 6 1, 0, 0, 0, (nI 1)), (.goto (-60), 0, 0, 0, 0)] (pc' := 22) (by decide +kernel) (lv' := [some (.ref 117), some (.int (nI x)), some (.int (nI y)), some (.int (nI r)), some (.int (nI 1)), some (.int (a.2 ||| ((nI 1) <<< ((nI i) &&& 31)))), some (.int ((nI i) + (nI 1))), some (.int (nI (tr_rk I (I 118 (22 + 11 * (y + i / 2) + (x + i % 2))))))]) (st' := []) (I' := I) (J' := J) rfl ?_
            refine EV_fg (lv' := [some (.ref 117), some (.int (nI x)), some (.int (nI y)), some (.int (nI r)), some (.int (nI 1)), some (.int (a.2 ||| ((nI 1) <<< ((nI i) &&& 31)))), some (.int ((nI i) + (nI 1))), none]) ⟨rfl, rfl, rfl, rfl, rfl, rfl, rfl, trivial⟩ ?_
            rw [show ((nI i) + (nI 1)) = (nI (i + 1)) from by simp (disch := omega) only [nI_add, tq_mul] <;> exact congrArg nI (by omega)]
            rw [tq_its, show (f_mfy1 I x y r w h) i a = ((nI 1), (a.2 ||| ((nI 1) <<< ((nI i) &&& 31)))) from by simp only [f_mfy1, if_neg h1, if_pos h2, if_pos h4, if_neg h6]] at kk
            have ihx := ih (i + 1) ((nI 1), (a.2 ||| ((nI 1) <<< ((nI i) &&& 31)))) (by omega)
            dsimp only at ihx
            exact ihx kk
def tr_fb (r i c : Nat) (a : Int32 × Int32) : Int32 × Int32 := (if a.1 = 0 then (if (nI c) = (nI r) then (if (nI c) < (nI r) then ((nI 1), (a.2 ||| (nI 0))) else ((nI 1), (a.2 ||| ((nI 1) <<< ((nI i) &&& 31))))) else (if (nI c) < (nI r) then ((nI 0), (a.2 ||| (nI 0))) else ((nI 0), (a.2 ||| ((nI 1) <<< ((nI i) &&& 31)))))) else (if (nI c) < (nI r) then ((nI 1), (a.2 ||| (nI 0))) else ((nI 1), (a.2 ||| ((nI 1) <<< ((nI i) &&& 31))))))
def tr_hs (r a b c d : Nat) : Int32 := if a = r ∨ b = r ∨ c = r ∨ d = r then nI 1 else nI 0
def tr_mm (r a b c d : Nat) : Nat := (if r ≤ a then 1 else 0) + (if r ≤ b then 2 else 0) + (if r ≤ c then 4 else 0) + (if r ≤ d then 8 else 0)
theorem tr_mm15 (r a b c d : Nat) : tr_mm r a b c d ≤ 15 := by
  unfold tr_mm
  (repeat' split) <;> decide
theorem tr_fbta : ∀ a, a < 6 → ∀ b, b < 6 → ∀ c, c < 6 → ∀ d, d < 6 → ((List.range 6).all fun r => decide (tr_fb r 3 d (tr_fb r 2 c (tr_fb r 1 b (tr_fb r 0 a (nI 0, nI 0)))) = (tr_hs r a b c d, nI (tr_mm r a b c d)))) = true := by decide +kernel
theorem tr_fbt (r : Nat) (hr : r < 6) (a : Nat) (ha : a < 6) (b : Nat) (hb : b < 6) (c : Nat) (hc : c < 6) (d : Nat) (hd : d < 6) : tr_fb r 3 d (tr_fb r 2 c (tr_fb r 1 b (tr_fb r 0 a (nI 0, nI 0)))) = (tr_hs r a b c d, nI (tr_mm r a b c d)) := of_decide_eq_true (tr_r6 (tr_fbta a ha b hb c hc d hd) r hr)
def tr_hsI (I : tq_I) (x y r : Nat) : Int32 := tr_hs r (tr_cr I x y 0) (tr_cr I x y 1) (tr_cr I x y 2) (tr_cr I x y 3)
def tr_mmI (I : tq_I) (x y r : Nat) : Nat := tr_mm r (tr_cr I x y 0) (tr_cr I x y 1) (tr_cr I x y 2) (tr_cr I x y 3)
theorem tr_fl1 (I : tq_I) (x y r w h : Nat) (hr : r < 6) : tq_it (f_mfy1 I x y r w h) 4 0 (nI 0, nI 0) = (tr_hsI I x y r, nI (tr_mmI I x y r)) := tr_fbt r hr _ (tr_cr5 I x y 0) _ (tr_cr5 I x y 1) _ (tr_cr5 I x y 2) _ (tr_cr5 I x y 3)
theorem tr_hsI1 {I : tq_I} {x y r : Nat} (h : ¬ tr_hsI I x y r = 0) : tr_lcI I x y (r + 1) = tr_lcI I x y r + 1 ∧ (r < 6 → tr_lcI I x y r < 4) := by
  unfold tr_hsI tr_hs at h
  by_cases c : tr_cr I x y 0 = r ∨ tr_cr I x y 1 = r ∨ tr_cr I x y 2 = r ∨ tr_cr I x y 3 = r
  · refine ⟨?_, fun hr => tr_lc4 _ (tr_cr5 I x y 0) _ (tr_cr5 I x y 1) _ (tr_cr5 I x y 2) _ (tr_cr5 I x y 3) r hr c⟩
    simp only [tr_lcI, tr_lc]
    rw [if_pos c]
  · rw [if_neg c] at h; exact absurd rfl h
theorem tr_hsI0 {I : tq_I} {x y r : Nat} (h : tr_hsI I x y r = 0) : tr_lcI I x y (r + 1) = tr_lcI I x y r := by
  unfold tr_hsI tr_hs at h
  by_cases c : tr_cr I x y 0 = r ∨ tr_cr I x y 1 = r ∨ tr_cr I x y 2 = r ∨ tr_cr I x y 3 = r
  · rw [if_pos c] at h; exact absurd h (by decide)
  · simp only [tr_lcI, tr_lc]
    rw [if_neg c, Nat.add_zero]
theorem tr_lcIc {I K : tq_I} {x y i : Nat} (e : ∀ j, K 118 j = I 118 j) : tr_lcI K x y i = tr_lcI I x y i := by
  unfold tr_lcI
  rw [tr_cr_cong e, tr_cr_cong e, tr_cr_cong e, tr_cr_cong e]
theorem tr_lcI6 (I : tq_I) (x y : Nat) : tr_lcI I x y 6 ≤ 4 := tr_lc4' _ (tr_cr5 I x y 0) _ (tr_cr5 I x y 1) _ (tr_cr5 I x y 2) _ (tr_cr5 I x y 3)
/-- a layer is put down -/
def tr_put (a : tq_I) (x y i : Nat) : tq_I := tq_u (tq_u (tq_u a 125 (tr_lcI a x y i) (a 118 (4 + i))) 126 (tr_lcI a x y i) (nI (tr_mmI a x y i))) 117 13 (nI (tr_lcI a x y i + 1))
def tr_flP (a : tq_I) (x y w h i : Nat) : Prop := tr_bas a w h ∧ a 117 13 = nI (tr_lcI a x y i) ∧ ∀ k, k < tr_lcI a x y i → (0 ≤ (a 125 k).toInt ∧ (a 125 k).toInt ≤ 5) ∧ 0 ≤ (a 126 k).toInt ∧ (a 126 k).toInt ≤ 15
theorem tr_put118 (a : tq_I) (x y i j : Nat) : tr_put a x y i 118 j = a 118 j := by
  unfold tr_put
  rw [tq_u_cell (by decide), tq_u_cell (by decide), tq_u_cell (by decide)]
theorem tr_flP0 {a : tq_I} {x y w h i : Nat} (k : tr_flP a x y w h i) (h0 : tr_hsI a x y i = 0) : tr_flP a x y w h (i + 1) := by
  refine ⟨k.1, ?_, ?_⟩
  · rw [tr_hsI0 h0]; exact k.2.1
  · rw [tr_hsI0 h0]; exact k.2.2
theorem tr_flP1 {a : tq_I} {x y w h i : Nat} (hi : i < 6) (k : tr_flP a x y w h i) (h1 : ¬ tr_hsI a x y i = 0) : tr_flP (tr_put a x y i) x y w h (i + 1) := by
  have e := tr_put118 a x y i
  obtain ⟨e1, e2⟩ := tr_hsI1 h1
  have e3 := e2 hi
  refine ⟨k.1.fr e, ?_, fun q hq => ?_⟩
  · rw [tr_lcIc e, e1]
    exact tq_u_same
  · rw [tr_lcIc e, e1] at hq
    have h125 : tr_put a x y i 125 q = if q = tr_lcI a x y i then a 118 (4 + i) else a 125 q := by simp [tr_put, tq_u]
    have h126 : tr_put a x y i 126 q = if q = tr_lcI a x y i then nI (tr_mmI a x y i) else a 126 q := by simp [tr_put, tq_u]
    rw [h125, h126]
    by_cases hqq : q = tr_lcI a x y i
    · rw [if_pos hqq, if_pos hqq]
      have h15 : tr_mmI a x y i ≤ 15 := tr_mm15 _ _ _ _ _
      exact ⟨k.1.2.1.2 i (by omega), by rw [nI_toInt (by omega)]; omega⟩
    · rw [if_neg hqq, if_neg hqq]
      exact k.2.2 q (by omega)
theorem fr_put (a : tq_I) (x y i : Nat) {cz : Nat} (hc : cz ≠ 117 ∧ cz ≠ 125 ∧ cz ≠ 126) (jz : Nat) : tr_put a x y i cz jz = a cz jz := by
  unfold tr_put
  rw [tq_u_cell hc.1, tq_u_cell hc.2.2, tq_u_cell hc.2.1]
def f_mfy2 (x y : Nat) (w h : Nat) (i : Nat) (a : tq_I) : tq_I := (if (tr_hsI a x y i) = 0 then a else (tr_put a x y i))
set_option maxRecDepth 20000 in
theorem lp_mfy2 {g : tq_G} {x0 : tq_X} (C : tq_C g mX12_findsLayers x0) (hR : tq_ht x0 2 0 0) (J : Int64) (x y : Nat) (w h : Nat) (hx : x ≤ 9) (hy : y ≤ 9) : ∀ (n i : Nat) (a : tq_I), i + n = 6 → tr_flP a x y w h i → EV g mX12_findsLayers x0 0 0 134 [some (.ref 117), some (.int (nI x)), some (.int (nI y)), some (.int (nI (i + n))), none, none, none, none] [] (tq_SC ++ tq_SR) tq_RR (tq_it (f_mfy2 x y w h) n i a) J → EV g mX12_findsLayers x0 0 0 7 [some (.ref 117), some (.int (nI x)), some (.int (nI y)), some (.int (nI i)), none, none, none, none] [] (tq_SC ++ tq_SR) tq_RR a J := by
  intro n
  induction n with
  | zero =>
    intro i a hi hI kk
    rw [Nat.add_zero] at kk
    refine EV_blk (own := 12) C rfl [(.iload_n 3, 0, 0, 0, 0), (.bipush 6, 0, 0, 0, (nI 6))] (pc' := 10) (by decide +kernel) (lv' := [some (.ref 117), some (.int (nI x)), some (.int (nI y)), some (.int (nI i)), none, none, none, none]) (st' := [.int (nI 6), .int (nI i)]) (I' := a) (J' := J) rfl ?_
    refine EV_icmp_ge (off := 124) (tgt := 134) C (by decide +kernel) (by decide) (fun h1 => ?_) (fun h1 => ?_)
    · skip
      exact kk
    · skip
      exact absurd h1 (by simp (disch := omega) only [Int32.lt_iff_toInt_lt, Int32.le_iff_toInt_le, Int32.toInt_zero, nI_toInt, tq_m1]; omega)
  | succ n ih =>
    intro i a hi hI kk
    rw [show i + (n + 1) = (i + 1) + n by omega] at kk
    refine EV_blk (own := 12) C rfl [(.iload_n 3, 0, 0, 0, 0), (.bipush 6, 0, 0, 0, (nI 6))] (pc' := 10) (by decide +kernel) (lv' := [some (.ref 117), some (.int (nI x)), some (.int (nI y)), some (.int (nI i)), none, none, none, none]) (st' := [.int (nI 6), .int (nI i)]) (I' := a) (J' := J) rfl ?_
    refine EV_icmp_ge (off := 124) (tgt := 134) C (by decide +kernel) (by decide) (fun h1 => ?_) (fun h1 => ?_)
    · skip
      exact absurd h1 (by simp (disch := omega) only [Int32.lt_iff_toInt_lt, Int32.le_iff_toInt_le, Int32.toInt_zero, nI_toInt, tq_m1]; omega)
    · skip
      refine EV_blk (own := 12) C rfl [(.iconst 0, 0, 0, 0, (nI 0)), (.istore 4, 0, 0, 0, 0), (.iconst 0, 0, 0, 0, (nI 0)), (.istore 5, 0, 0, 0, 0), (.iconst 0, 0, 0, 0, (nI 0)), (.istore 6, 0, 0, 0, 0)] (pc' := 22) (by decide +kernel) (lv' := [some (.ref 117), some (.int (nI x)), some (.int (nI y)), some (.int (nI i)), some (.int (nI 0)), some (.int (nI 0)), some (.int (nI 0)), none]) (st' := []) (I' := a) (J' := J) rfl ?_
      have hlp := lp_mfy1 (g := g) C hR a J x y i w h hx hy (by omega) hI.1 4 0 (nI 0, nI 0) (by omega)
      rw [tr_fl1 _ x y i w h (by omega)] at hlp
      dsimp only at hlp
      refine hlp ?_
      clear hlp
      refine EV_blk (own := 12) C rfl [(.iload 4, 0, 0, 0, 0)] (pc' := 87) (by decide +kernel) (lv' := [some (.ref 117), some (.int (nI x)), some (.int (nI y)), some (.int (nI i)), some (.int (tr_hsI a x y i)), some (.int (nI (tr_mmI a x y i))), some (.int (nI 4)), none]) (st' := [.int (tr_hsI a x y i)]) (I' := a) (J' := J) rfl ?_
      refine EV_if_eq (off := 41) (tgt := 128) C (by decide +kernel) (by decide) (fun hz => ?_) (fun hz => ?_)
      · skip
        refine EV_blk (own := 12) C rfl [(.iinc 3 1, 0, 0, 0, (nI 1)), (.goto (-124), 0, 0, 0, 0)] (pc' := 7) (by decide +kernel) (lv' := [some (.ref 117), some (.int (nI x)), some (.int (nI y)), some (.int ((nI i) + (nI 1))), some (.int (tr_hsI a x y i)), some (.int (nI (tr_mmI a x y i))), some (.int (nI 4)), none]) (st' := []) (I' := a) (J' := J) rfl ?_
        refine EV_fg (lv' := [some (.ref 117), some (.int (nI x)), some (.int (nI y)), some (.int ((nI i) + (nI 1))), none, none, none, none]) ⟨rfl, rfl, rfl, rfl, trivial⟩ ?_
        rw [show ((nI i) + (nI 1)) = (nI (i + 1)) from by simp (disch := omega) only [nI_add, tq_mul] <;> exact congrArg nI (by omega)]
        rw [tq_its, show (f_mfy2 x y w h) i a = a from by simp only [f_mfy2, if_neg h1, if_pos hz]] at kk
        exact ih (i + 1) a (by omega) (tr_flP0 hI hz) kk
      · skip
        have hlt := (tr_hsI1 hz).2 (by omega)
        refine EV_blk (own := 12) C rfl [(.aload_n 0, 0, 0, 0, 0), (.getfield 32, 12, 11, 910, 0), (.aload_n 0, 0, 0, 0, 0), (.getfield 142, 12, 13, 912, 0), (.aload_n 0, 0, 0, 0, 0), (.getfield 7, 12, 0, 899, 0), (.iconst 4, 0, 0, 0, (nI 4)), (.iload_n 3, 0, 0, 0, 0), (.iadd, 0, 0, 0, 0)] (pc' := 105) (by decide +kernel) (lv' := [some (.ref 117), some (.int (nI x)), some (.int (nI y)), some (.int (nI i)), some (.int (tr_hsI a x y i)), some (.int (nI (tr_mmI a x y i))), some (.int (nI 4)), none]) (st' := [.int ((nI 4) + (nI i)), .ref 118, .int (a 117 13), .ref 125]) (I' := a) (J' := J) rfl ?_
        refine EV_iald (j := (4 + i)) C (by decide +kernel) rfl (tq_toI (4 + i) (by simp (disch := omega) only [nI_add, tq_mul, tq_rem_nI, tq_div_nI, tq_sub_nI]) (by omega)) (by omega) ?_
        refine EV_iast (j := (tr_lcI a x y i)) C (by decide +kernel) rfl (tq_toI _ hI.2.1 (by omega)) (by omega) ?_
        refine EV_blk (own := 12) C rfl [(.aload_n 0, 0, 0, 0, 0), (.getfield 35, 12, 12, 911, 0), (.aload_n 0, 0, 0, 0, 0), (.getfield 142, 12, 13, 912, 0), (.iload 5, 0, 0, 0, 0)] (pc' := 117) (by decide +kernel) (lv' := [some (.ref 117), some (.int (nI x)), some (.int (nI y)), some (.int (nI i)), some (.int (tr_hsI a x y i)), some (.int (nI (tr_mmI a x y i))), some (.int (nI 4)), none]) (st' := [.int (nI (tr_mmI a x y i)), .int ((tq_u a 125 (tr_lcI a x y i) (a 118 (4 + i))) 117 13), .ref 126]) (I' := (tq_u a 125 (tr_lcI a x y i) (a 118 (4 + i)))) (J' := J) rfl ?_
        refine EV_iast (j := (tr_lcI a x y i)) C (by decide +kernel) rfl (tq_toI _ (by rw [tq_u_cell (by decide)]; exact hI.2.1) (by omega)) (by omega) ?_
        refine EV_blk (own := 12) C rfl [(.aload_n 0, 0, 0, 0, 0), (.dup, 0, 0, 0, 0), (.getfield 142, 12, 13, 912, 0), (.iconst 1, 0, 0, 0, (nI 1)), (.iadd, 0, 0, 0, 0), (.putfield 142, 12, 13, 912, 0)] (pc' := 128) (by decide +kernel) (lv' := [some (.ref 117), some (.int (nI x)), some (.int (nI y)), some (.int (nI i)), some (.int (tr_hsI a x y i)), some (.int (nI (tr_mmI a x y i))), some (.int (nI 4)), none]) (st' := []) (I' := (tq_u (tq_u (tq_u a 125 (tr_lcI a x y i) (a 118 (4 + i))) 126 (tr_lcI a x y i) (nI (tr_mmI a x y i))) 117 13 (((tq_u (tq_u a 125 (tr_lcI a x y i) (a 118 (4 + i))) 126 (tr_lcI a x y i) (nI (tr_mmI a x y i))) 117 13) + (nI 1)))) (J' := J) rfl ?_
        rw [show (tq_u (tq_u (tq_u a 125 (tr_lcI a x y i) (a 118 (4 + i))) 126 (tr_lcI a x y i) (nI (tr_mmI a x y i))) 117 13 (((tq_u (tq_u a 125 (tr_lcI a x y i) (a 118 (4 + i))) 126 (tr_lcI a x y i) (nI (tr_mmI a x y i))) 117 13) + (nI 1))) = tr_put a x y i from by unfold tr_put; rw [tq_u_cell (by decide), tq_u_cell (by decide), hI.2.1, nI_add]]
        refine EV_blk (own := 12) C rfl [(.iinc 3 1, 0, 0, 0, (nI 1)), (.goto (-124), 0, 0, 0, 0)] (pc' := 7) (by decide +kernel) (lv' := [some (.ref 117), some (.int (nI x)), some (.int (nI y)), some (.int ((nI i) + (nI 1))), some (.int (tr_hsI a x y i)), some (.int (nI (tr_mmI a x y i))), some (.int (nI 4)), none]) (st' := []) (I' := (tr_put a x y i)) (J' := J) rfl ?_
        refine EV_fg (lv' := [some (.ref 117), some (.int (nI x)), some (.int (nI y)), some (.int ((nI i) + (nI 1))), none, none, none, none]) ⟨rfl, rfl, rfl, rfl, trivial⟩ ?_
        rw [show ((nI i) + (nI 1)) = (nI (i + 1)) from by simp (disch := omega) only [nI_add, tq_mul] <;> exact congrArg nI (by omega)]
        rw [tq_its, show (f_mfy2 x y w h) i a = (tr_put a x y i) from by simp only [f_mfy2, if_neg h1, if_neg hz]] at kk
        exact ih (i + 1) (tr_put a x y i) (by omega) (tr_flP1 (by omega) hI hz) kk
theorem fr_mfy2 (x y : Nat) (w h : Nat) {cz : Nat} (hc : cz ≠ 117 ∧ cz ≠ 125 ∧ cz ≠ 126) (n i : Nat) (a : tq_I) (jz : Nat) : (tq_it (f_mfy2 x y w h) n i a) cz jz = a cz jz := by
  obtain ⟨hc0, hc1, hc2⟩ := hc
  refine tq_itF (fun i a j => ?_) n i a jz
  simp only [f_mfy2]
  (repeat' split) <;> simp (disch := first | assumption | (simp only [ne_eq] at *; simp [*])) [tq_u, tq_cp, hc0, hc1, hc2, fr_X12_touches, fr_ta1, fr_X12_touchesAll, fr_cps1, fr_X12_copies, fr_sav, fr_bg1, fr_bg2, fr_X12_begins, fr_ly1, fr_X12_lays, fr_bgn1, fr_X12_begin, fr_X12_setCorner, fr_fi1, fr_X12_fill, fr_fg1, fr_X12_forgets, fr_rc1, fr_rc2, fr_X12_reaches, fr_mfl1, fr_X12_flood, fr_mrg1, fr_X12_regions, fr_mra1, fr_X12_raise, fr_sp1, fr_X12_setPath, fr_sr1, fr_sr2, fr_X12_setRank, fr_X12_becomes, fr_X12_setTiles, fr_X12_setVariants, fr_X12_setSeed, fr_X12_setBorder, fr_X12_makesUp, fr_X12_finds, fr_X12_parts, fr_put]
theorem tr_flP_it {x y w h : Nat} : ∀ (n i : Nat) (a : tq_I), i + n = 6 → tr_flP a x y w h i → tr_flP (tq_it (f_mfy2 x y w h) n i a) x y w h 6
  | 0, i, a, hi, k => by rw [show i = 6 by omega] at k; exact k
  | n + 1, i, a, hi, k => by
    refine tr_flP_it n (i + 1) _ (by omega) ?_
    unfold f_mfy2
    split
    · rename_i h0; exact tr_flP0 k h0
    · rename_i h1; exact tr_flP1 (by omega) k h1
theorem tr_flP_0 {I : tq_I} {x y w h : Nat} (k : tr_bas I w h) : tr_flP (tq_u I 117 13 (nI 0)) x y w h 0 := ⟨k.fr (fun j => tq_u_cell (by decide)), tq_u_same, fun q hq => absurd hq (Nat.not_lt_zero q)⟩
def I_X12_findsLayers (I : tq_I) (x y : Nat) (w h : Nat) : tq_I := (tq_it (f_mfy2 x y w h) 6 0 (tq_u I 117 13 (nI 0)))
set_option maxRecDepth 20000 in
theorem c_X12_findsLayers (g : tq_G) (I : tq_I) (J : Int64) (x y : Nat) (w h : Nat) (hx : x ≤ 9) (hy : y ≤ 9) (k : tr_bas I w h) : CT g mX12_findsLayers 2 0 0 [.ref 117, .int (nI x), .int (nI y)] (tq_SC ++ tq_SR) tq_RR I J (tq_ret (tq_SC ++ tq_SR) tq_RR none (I_X12_findsLayers I x y w h) J) := by
  refine CT.ret kX12_findsLayers (Nat.le_of_ble_eq_true rfl) (fun x0 C hR hZ => ?_)
  refine EV_en (lv' := [some (.ref 117), some (.int (nI x)), some (.int (nI y)), none, none, none, none, none]) 5 rfl ?_
  refine EV_blk (own := 12) C rfl [(.aload_n 0, 0, 0, 0, 0), (.iconst 0, 0, 0, 0, (nI 0)), (.putfield 142, 12, 13, 912, 0), (.iconst 0, 0, 0, 0, (nI 0)), (.istore_n 3, 0, 0, 0, 0)] (pc' := 7) (by decide +kernel) (lv' := [some (.ref 117), some (.int (nI x)), some (.int (nI y)), some (.int (nI 0)), none, none, none, none]) (st' := []) (I' := (tq_u I 117 13 (nI 0))) (J' := J) rfl ?_
  refine lp_mfy2 C hR J x y w h hx hy 6 0 (tq_u I 117 13 (nI 0)) (by omega) (tr_flP_0 k) ?_
  exact EV_vret C hZ rfl (by decide +kernel) (Nat.le_refl _) (Nat.le_refl _) ⟨rfl, rfl, rfl, by simp only [I_X12_findsLayers], rfl⟩
theorem fr_X12_findsLayers (I : tq_I) (x y : Nat) (w h : Nat) {cz : Nat} (hc : cz ≠ 117 ∧ cz ≠ 125 ∧ cz ≠ 126) (jz : Nat) : I_X12_findsLayers I x y w h cz jz = I cz jz := by
  obtain ⟨hc0, hc1, hc2⟩ := hc
  simp only [I_X12_findsLayers]
  (repeat' split) <;> simp (disch := first | assumption | (simp only [ne_eq] at *; simp [*])) [tq_u, tq_cp, hc0, hc1, hc2, fr_X12_touches, fr_ta1, fr_X12_touchesAll, fr_cps1, fr_X12_copies, fr_sav, fr_bg1, fr_bg2, fr_X12_begins, fr_ly1, fr_X12_lays, fr_bgn1, fr_X12_begin, fr_X12_setCorner, fr_fi1, fr_X12_fill, fr_fg1, fr_X12_forgets, fr_rc1, fr_rc2, fr_X12_reaches, fr_mfl1, fr_X12_flood, fr_mrg1, fr_X12_regions, fr_mra1, fr_X12_raise, fr_sp1, fr_X12_setPath, fr_sr1, fr_sr2, fr_X12_setRank, fr_X12_becomes, fr_X12_setTiles, fr_X12_setVariants, fr_X12_setSeed, fr_X12_setBorder, fr_X12_makesUp, fr_X12_finds, fr_X12_parts, fr_put, fr_mfy2]
theorem tr_flE {I : tq_I} {x y w h : Nat} (k : tr_bas I w h) : tr_flP (I_X12_findsLayers I x y w h) x y w h 6 := tr_flP_it 6 0 _ rfl (tr_flP_0 k)
theorem tr_flP.c4 {a : tq_I} {x y w h : Nat} (k : tr_flP a x y w h 6) : ∃ c, c ≤ 4 ∧ a 117 13 = nI c ∧ ∀ q, q < c → (0 ≤ (a 125 q).toInt ∧ (a 125 q).toInt ≤ 5) ∧ 0 ≤ (a 126 q).toInt ∧ (a 126 q).toInt ≤ 15 := ⟨_, tr_lcI6 a x y, k.2.1, k.2.2⟩
def r_X12_variantOf (I : tq_I) (x y t : Nat) : Int32 := (tq_rem (tq_ush ((((((nI 31) * (((nI 31) * (((nI 31) * (I 118 2)) + (nI x))) + (nI y))) + (nI t)) ^^^ (tq_ush (((nI 31) * (((nI 31) * (((nI 31) * (I 118 2)) + (nI x))) + (nI y))) + (nI t)) (nI 15))) * (nI 739982445)) ^^^ (tq_ush (((((nI 31) * (((nI 31) * (((nI 31) * (I 118 2)) + (nI x))) + (nI y))) + (nI t)) ^^^ (tq_ush (((nI 31) * (((nI 31) * (((nI 31) * (I 118 2)) + (nI x))) + (nI y))) + (nI t)) (nI 15))) * (nI 739982445)) (nI 12))) (nI 1)) (I 118 (16 + t)))
set_option maxRecDepth 20000 in
theorem c_X12_variantOf (g : tq_G) (I : tq_I) (J : Int64) (x y t : Nat) (ht : t ≤ 5) (hv : tr_var I) : CT g mX12_variantOf 0 0 0 [.ref 117, .int (nI x), .int (nI y), .int (nI t)] (tq_SC ++ tq_SR) tq_RR I J (tq_ret (tq_SC ++ tq_SR) tq_RR (some (.int (r_X12_variantOf I x y t))) I J) := by
  refine CT.ret kX12_variantOf (Nat.le_of_ble_eq_true rfl) (fun x0 C hR hZ => ?_)
  refine EV_en (lv' := [some (.ref 117), some (.int (nI x)), some (.int (nI y)), some (.int (nI t)), none]) 1 rfl ?_
  refine EV_blk (own := 12) C rfl [(.aload_n 0, 0, 0, 0, 0), (.getfield 7, 12, 0, 899, 0), (.iconst 2, 0, 0, 0, (nI 2))] (pc' := 5) (by decide +kernel) (lv' := [some (.ref 117), some (.int (nI x)), some (.int (nI y)), some (.int (nI t)), none]) (st' := [.int (nI 2), .ref 118]) (I' := I) (J' := J) rfl ?_
  refine EV_iald (j := 2) C (by decide +kernel) rfl (nI_toInt (by omega)) (by omega) ?_
  refine EV_blk (own := 12) C rfl [(.istore 4, 0, 0, 0, 0), (.bipush 31, 0, 0, 0, (nI 31)), (.iload 4, 0, 0, 0, 0), (.imul, 0, 0, 0, 0), (.iload_n 1, 0, 0, 0, 0), (.iadd, 0, 0, 0, 0), (.istore 4, 0, 0, 0, 0), (.bipush 31, 0, 0, 0, (nI 31)), (.iload 4, 0, 0, 0, 0), (.imul, 0, 0, 0, 0), (.iload_n 2, 0, 0, 0, 0), (.iadd, 0, 0, 0, 0), (.istore 4, 0, 0, 0, 0), (.bipush 31, 0, 0, 0, (nI 31)), (.iload 4, 0, 0, 0, 0), (.imul, 0, 0, 0, 0), (.iload_n 3, 0, 0, 0, 0), (.iadd, 0, 0, 0, 0), (.istore 4, 0, 0, 0, 0), (.iload 4, 0, 0, 0, 0), (.iload 4, 0, 0, 0, 0), (.bipush 15, 0, 0, 0, (nI 15)), (.iushr, 0, 0, 0, 0), (.ixor, 0, 0, 0, 0), (.ldc 148, 0, 0, 1165, (nI 739982445)), (.imul, 0, 0, 0, 0), (.istore 4, 0, 0, 0, 0), (.iload 4, 0, 0, 0, 0), (.iload 4, 0, 0, 0, 0), (.bipush 12, 0, 0, 0, (nI 12)), (.iushr, 0, 0, 0, 0), (.ixor, 0, 0, 0, 0), (.iconst 1, 0, 0, 0, (nI 1)), (.iushr, 0, 0, 0, 0), (.aload_n 0, 0, 0, 0, 0), (.getfield 7, 12, 0, 899, 0), (.bipush 16, 0, 0, 0, (nI 16)), (.iload_n 3, 0, 0, 0, 0), (.iadd, 0, 0, 0, 0)] (pc' := 66) (by decide +kernel) (lv' := [some (.ref 117), some (.int (nI x)), some (.int (nI y)), some (.int (nI t)), some (.int (((((nI 31) * (((nI 31) * (((nI 31) * (I 118 2)) + (nI x))) + (nI y))) + (nI t)) ^^^ (tq_ush (((nI 31) * (((nI 31) * (((nI 31) * (I 118 2)) + (nI x))) + (nI y))) + (nI t)) (nI 15))) * (nI 739982445)))]) (st' := [.int ((nI 16) + (nI t)), .ref 118, .int (tq_ush ((((((nI 31) * (((nI 31) * (((nI 31) * (I 118 2)) + (nI x))) + (nI y))) + (nI t)) ^^^ (tq_ush (((nI 31) * (((nI 31) * (((nI 31) * (I 118 2)) + (nI x))) + (nI y))) + (nI t)) (nI 15))) * (nI 739982445)) ^^^ (tq_ush (((((nI 31) * (((nI 31) * (((nI 31) * (I 118 2)) + (nI x))) + (nI y))) + (nI t)) ^^^ (tq_ush (((nI 31) * (((nI 31) * (((nI 31) * (I 118 2)) + (nI x))) + (nI y))) + (nI t)) (nI 15))) * (nI 739982445)) (nI 12))) (nI 1))]) (I' := I) (J' := J) rfl ?_
  refine EV_iald (j := (16 + t)) C (by decide +kernel) rfl (tq_toI (16 + t) (by simp (disch := omega) only [nI_add, tq_mul, tq_rem_nI, tq_div_nI, tq_sub_nI]) (by omega)) (by omega) ?_
  refine EV_irem C (by decide +kernel) (hv t (by omega)) ?_
  exact EV_iret C hZ rfl (by decide +kernel) (Nat.le_refl _) (Nat.le_refl _) ⟨tq_some (by simp only [r_X12_variantOf]), rfl, rfl, rfl, rfl⟩
def r_X12_ofPiece (v q : Int32) : Int32 := (if q = 0 then (tq_rem v (nI 8)) else (if q = (nI 1) then (tq_rem (v / (nI 8)) (nI 16)) else (if q = (nI 2) then (tq_rem (v / (nI 128)) (nI 4)) else (v / (nI 512)))))
set_option maxRecDepth 20000 in
theorem c_X12_ofPiece (g : tq_G) (I : tq_I) (J : Int64) (v q : Int32)  : CT g mX12_ofPiece 0 0 0 [.int v, .int q] (tq_SC ++ tq_SR) tq_RR I J (tq_ret (tq_SC ++ tq_SR) tq_RR (some (.int (r_X12_ofPiece v q))) I J) := by
  refine CT.ret kX12_ofPiece (Nat.le_of_ble_eq_true rfl) (fun x0 C hR hZ => ?_)
  refine EV_en (lv' := [some (.int v), some (.int q)]) 0 rfl ?_
  refine EV_blk (own := 12) C rfl [(.iload_n 1, 0, 0, 0, 0)] (pc' := 1) (by decide +kernel) (lv' := [some (.int v), some (.int q)]) (st' := [.int q]) (I' := I) (J' := J) rfl ?_
  refine EV_if_ne (off := 10) (tgt := 11) C (by decide +kernel) (by decide) (fun h1 => ?_) (fun h1 => ?_)
  · skip
    refine EV_blk (own := 12) C rfl [(.iload_n 1, 0, 0, 0, 0), (.iconst 1, 0, 0, 0, (nI 1))] (pc' := 13) (by decide +kernel) (lv' := [some (.int v), some (.int q)]) (st' := [.int (nI 1), .int q]) (I' := I) (J' := J) rfl ?_
    refine EV_icmp_ne (off := 13) (tgt := 26) C (by decide +kernel) (by decide) (fun h2 => ?_) (fun h2 => ?_)
    · skip
      refine EV_blk (own := 12) C rfl [(.iload_n 1, 0, 0, 0, 0), (.iconst 2, 0, 0, 0, (nI 2))] (pc' := 28) (by decide +kernel) (lv' := [some (.int v), some (.int q)]) (st' := [.int (nI 2), .int q]) (I' := I) (J' := J) rfl ?_
      refine EV_icmp_ne (off := 13) (tgt := 41) C (by decide +kernel) (by decide) (fun h3 => ?_) (fun h3 => ?_)
      · skip
        refine EV_blk (own := 12) C rfl [(.iload_n 0, 0, 0, 0, 0), (.sipush 512, 0, 0, 0, (nI 512))] (pc' := 45) (by decide +kernel) (lv' := [some (.int v), some (.int q)]) (st' := [.int (nI 512), .int v]) (I' := I) (J' := J) rfl ?_
        refine EV_idiv C (by decide +kernel) (by decide) ?_
        exact EV_iret C hZ rfl (by decide +kernel) (Nat.le_refl _) (Nat.le_refl _) ⟨tq_some (by simp only [r_X12_ofPiece, if_neg h1, if_neg h2, if_neg h3]), rfl, rfl, rfl, rfl⟩
      · skip
        refine EV_blk (own := 12) C rfl [(.iload_n 0, 0, 0, 0, 0), (.sipush 128, 0, 0, 0, (nI 128))] (pc' := 35) (by decide +kernel) (lv' := [some (.int v), some (.int q)]) (st' := [.int (nI 128), .int v]) (I' := I) (J' := J) rfl ?_
        refine EV_idiv C (by decide +kernel) (by decide) ?_
        refine EV_blk (own := 12) C rfl [(.iconst 4, 0, 0, 0, (nI 4))] (pc' := 37) (by decide +kernel) (lv' := [some (.int v), some (.int q)]) (st' := [.int (nI 4), .int (v / (nI 128))]) (I' := I) (J' := J) rfl ?_
        refine EV_irem C (by decide +kernel) (by decide) ?_
        refine EV_blk (own := 12) C rfl [(.goto 8, 0, 0, 0, 0)] (pc' := 46) (by decide +kernel) (lv' := [some (.int v), some (.int q)]) (st' := [.int (tq_rem (v / (nI 128)) (nI 4))]) (I' := I) (J' := J) rfl ?_
        exact EV_iret C hZ rfl (by decide +kernel) (Nat.le_refl _) (Nat.le_refl _) ⟨tq_some (by simp only [r_X12_ofPiece, if_neg h1, if_neg h2, if_pos h3]), rfl, rfl, rfl, rfl⟩
    · skip
      refine EV_blk (own := 12) C rfl [(.iload_n 0, 0, 0, 0, 0), (.bipush 8, 0, 0, 0, (nI 8))] (pc' := 19) (by decide +kernel) (lv' := [some (.int v), some (.int q)]) (st' := [.int (nI 8), .int v]) (I' := I) (J' := J) rfl ?_
      refine EV_idiv C (by decide +kernel) (by decide) ?_
      refine EV_blk (own := 12) C rfl [(.bipush 16, 0, 0, 0, (nI 16))] (pc' := 22) (by decide +kernel) (lv' := [some (.int v), some (.int q)]) (st' := [.int (nI 16), .int (v / (nI 8))]) (I' := I) (J' := J) rfl ?_
      refine EV_irem C (by decide +kernel) (by decide) ?_
      refine EV_blk (own := 12) C rfl [(.goto 23, 0, 0, 0, 0)] (pc' := 46) (by decide +kernel) (lv' := [some (.int v), some (.int q)]) (st' := [.int (tq_rem (v / (nI 8)) (nI 16))]) (I' := I) (J' := J) rfl ?_
      exact EV_iret C hZ rfl (by decide +kernel) (Nat.le_refl _) (Nat.le_refl _) ⟨tq_some (by simp only [r_X12_ofPiece, if_neg h1, if_pos h2]), rfl, rfl, rfl, rfl⟩
  · skip
    refine EV_blk (own := 12) C rfl [(.iload_n 0, 0, 0, 0, 0), (.bipush 8, 0, 0, 0, (nI 8))] (pc' := 7) (by decide +kernel) (lv' := [some (.int v), some (.int q)]) (st' := [.int (nI 8), .int v]) (I' := I) (J' := J) rfl ?_
    refine EV_irem C (by decide +kernel) (by decide) ?_
    refine EV_blk (own := 12) C rfl [(.goto 38, 0, 0, 0, 0)] (pc' := 46) (by decide +kernel) (lv' := [some (.int v), some (.int q)]) (st' := [.int (tq_rem v (nI 8))]) (I' := I) (J' := J) rfl ?_
    exact EV_iret C hZ rfl (by decide +kernel) (Nat.le_refl _) (Nat.le_refl _) ⟨tq_some (by simp only [r_X12_ofPiece, if_pos h1]), rfl, rfl, rfl, rfl⟩
set_option maxRecDepth 20000 in
theorem c_X12_at (g : tq_G) (I : tq_I) (J : Int64) (x y : Nat)  : CT g mX12_at 0 0 0 [.ref 117, .int (nI x), .int (nI y)] (tq_SC ++ tq_SR) tq_RR I J (tq_ret (tq_SC ++ tq_SR) tq_RR (some (.int (nI (343 + 10 * (10 * y + x))))) I J) := by
  refine CT.ret kX12_at (Nat.le_of_ble_eq_true rfl) (fun x0 C hR hZ => ?_)
  refine EV_en (lv' := [some (.ref 117), some (.int (nI x)), some (.int (nI y))]) 0 rfl ?_
  refine EV_blk (own := 12) C rfl [(.sipush 343, 0, 0, 0, (nI 343)), (.bipush 10, 0, 0, 0, (nI 10)), (.bipush 10, 0, 0, 0, (nI 10)), (.iload_n 2, 0, 0, 0, 0), (.imul, 0, 0, 0, 0), (.iload_n 1, 0, 0, 0, 0), (.iadd, 0, 0, 0, 0), (.imul, 0, 0, 0, 0), (.iadd, 0, 0, 0, 0)] (pc' := 13) (by decide +kernel) (lv' := [some (.ref 117), some (.int (nI x)), some (.int (nI y))]) (st' := [.int ((nI 343) + ((nI 10) * (((nI 10) * (nI y)) + (nI x))))]) (I' := I) (J' := J) rfl ?_
  exact EV_iret C hZ rfl (by decide +kernel) (Nat.le_refl _) (Nat.le_refl _) ⟨tq_some (by simp only [nI_add, tq_mul]), rfl, rfl, rfl, rfl⟩
