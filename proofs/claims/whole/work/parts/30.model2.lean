theorem tr_inj {a b : Nat} (ha : a < 2 ^ 31) (hb : b < 2 ^ 31) (h : nI a = nI b) : a = b := by
  have := congrArg tq_N h
  rwa [tq_N_nI ha, tq_N_nI hb] at this
theorem tq_uu {I : tq_I} {a k : Nat} {v z : Int32} : tq_u (tq_u I a k v) a k z = tq_u I a k z := by
  funext c j
  simp only [tq_u]
  split <;> rfl
def tr_sav (I : tq_I) (s : Nat) : tq_I := if s = 5 then tq_cp (tq_u (tq_cp (tq_cp (tq_cp (tq_cp I 118 (1343 * 2) 118 (1343 * 1) 1343) 118 (1343 * 3) 118 (1343 * 2) 1343) 118 (1343 * 4) 118 (1343 * 3) 1343) 118 (1343 * 5) 118 (1343 * 4) 1343) 117 1 (nI 5)) 118 (1343 * 0) 118 (1343 * 5) 1343 else tq_cp (tq_u I 117 1 (nI (s + 1))) 118 (1343 * 0) 118 (1343 * (s + 1)) 1343
set_option maxRecDepth 20000 in
theorem c_saves5 (g : tq_G) (I : tq_I) (J : Int64)  (hs : I 117 1 = nI 5) : CT g mX12_saves 1 0 0 [.ref 117] (tq_SC ++ tq_SR) tq_RR I J (tq_ret (tq_SC ++ tq_SR) tq_RR none (tr_sav I 5) J) := by
  refine CT.ret kX12_saves (Nat.le_of_ble_eq_true rfl) (fun x0 C hR hZ => ?_)
  refine EV_en (lv' := [some (.ref 117), none]) 1 rfl ?_
  refine EV_blk (own := 12) C rfl [(.iconst 1, 0, 0, 0, (nI 1)), (.istore_n 1, 0, 0, 0, 0)] (pc' := 2) (by decide +kernel) (lv' := [some (.ref 117), some (.int (nI 1))]) (st' := []) (I' := I) (J' := J) rfl ?_
  refine EV_blk (own := 12) C rfl [(.iload_n 1, 0, 0, 0, 0), (.iconst 5, 0, 0, 0, (nI 5))] (pc' := 4) (by decide +kernel) (lv' := [some (.ref 117), some (.int (nI 1))]) (st' := [.int (nI 5), .int (nI 1)]) (I' := I) (J' := J) rfl ?_
  refine EV_icmp_ge (off := 25) (tgt := 29) C (by decide +kernel) (by decide) (fun h1 => ?_) (fun h1 => ?_)
  · skip
    exact absurd h1 (by decide)
  · skip
    refine EV_blk (own := 12) C rfl [(.aload_n 0, 0, 0, 0, 0), (.getfield 55, 12, 1, 900, 0), (.iconst 5, 0, 0, 0, (nI 5))] (pc' := 12) (by decide +kernel) (lv' := [some (.ref 117), some (.int (nI 1))]) (st' := [.int (nI 5), .int (I 117 1)]) (I' := I) (J' := J) rfl ?_
    refine EV_icmp_ne (off := 17) (tgt := 29) C (by decide +kernel) (by decide) (fun h2 => ?_) (fun h2 => ?_)
    · skip
      exact absurd (by first | exact hs | simp (disch := decide) only [tq_cp_cell]; exact hs) h2
    · skip
      refine EV_blk (own := 12) C rfl [(.aload_n 0, 0, 0, 0, 0), (.iload_n 1, 0, 0, 0, 0), (.iconst 1, 0, 0, 0, (nI 1)), (.iadd, 0, 0, 0, 0), (.iload_n 1, 0, 0, 0, 0)] (pc' := 20) (by decide +kernel) (lv' := [some (.ref 117), some (.int (nI 1))]) (st' := [.int (nI 1), .int ((nI 1) + (nI 1)), .ref 117]) (I' := I) (J' := J) rfl ?_
      refine EV_ste (st' := [.int (nI 1), .int (nI 2), .ref 117]) (by rw [show ((nI 1) + (nI 1)) = (nI 2) from by decide]) ?_
      refine EV_cV (own := 12) (idx := 59) (μ' := mX12_copies) (b := 117) (cb := 12) (av := [.int (nI 2), .int (nI 1)]) (rest := []) C hR rfl (Or.inl ⟨990, by decide⟩) kX12_copies sX12_copies (c_copies g I J 2 1 (by omega) (by omega) (by omega)) rfl rfl (by decide +kernel) rfl (by decide) (Nat.le_of_ble_eq_true rfl) rfl ⟨Nat.zero_le _, Nat.zero_le _⟩ ?_
      refine EV_blk (own := 12) C rfl [(.iinc 1 1, 0, 0, 0, (nI 1)), (.goto (-24), 0, 0, 0, 0)] (pc' := 2) (by decide +kernel) (lv' := [some (.ref 117), some (.int ((nI 1) + (nI 1)))]) (st' := []) (I' := (tq_cp I 118 (1343 * 2) 118 (1343 * 1) 1343)) (J' := J) rfl ?_
      refine EV_lve (lv' := [some (.ref 117), some (.int (nI 2))]) (by rw [show ((nI 1) + (nI 1)) = (nI 2) from by decide]) ?_
      refine EV_blk (own := 12) C rfl [(.iload_n 1, 0, 0, 0, 0), (.iconst 5, 0, 0, 0, (nI 5))] (pc' := 4) (by decide +kernel) (lv' := [some (.ref 117), some (.int (nI 2))]) (st' := [.int (nI 5), .int (nI 2)]) (I' := (tq_cp I 118 (1343 * 2) 118 (1343 * 1) 1343)) (J' := J) rfl ?_
      refine EV_icmp_ge (off := 25) (tgt := 29) C (by decide +kernel) (by decide) (fun h3 => ?_) (fun h3 => ?_)
      · skip
        exact absurd h3 (by decide)
      · skip
        refine EV_blk (own := 12) C rfl [(.aload_n 0, 0, 0, 0, 0), (.getfield 55, 12, 1, 900, 0), (.iconst 5, 0, 0, 0, (nI 5))] (pc' := 12) (by decide +kernel) (lv' := [some (.ref 117), some (.int (nI 2))]) (st' := [.int (nI 5), .int ((tq_cp I 118 (1343 * 2) 118 (1343 * 1) 1343) 117 1)]) (I' := (tq_cp I 118 (1343 * 2) 118 (1343 * 1) 1343)) (J' := J) rfl ?_
        refine EV_icmp_ne (off := 17) (tgt := 29) C (by decide +kernel) (by decide) (fun h4 => ?_) (fun h4 => ?_)
        · skip
          exact absurd (by first | exact hs | simp (disch := decide) only [tq_cp_cell]; exact hs) h4
        · skip
          refine EV_blk (own := 12) C rfl [(.aload_n 0, 0, 0, 0, 0), (.iload_n 1, 0, 0, 0, 0), (.iconst 1, 0, 0, 0, (nI 1)), (.iadd, 0, 0, 0, 0), (.iload_n 1, 0, 0, 0, 0)] (pc' := 20) (by decide +kernel) (lv' := [some (.ref 117), some (.int (nI 2))]) (st' := [.int (nI 2), .int ((nI 2) + (nI 1)), .ref 117]) (I' := (tq_cp I 118 (1343 * 2) 118 (1343 * 1) 1343)) (J' := J) rfl ?_
          refine EV_ste (st' := [.int (nI 2), .int (nI 3), .ref 117]) (by rw [show ((nI 2) + (nI 1)) = (nI 3) from by decide]) ?_
          refine EV_cV (own := 12) (idx := 59) (μ' := mX12_copies) (b := 117) (cb := 12) (av := [.int (nI 3), .int (nI 2)]) (rest := []) C hR rfl (Or.inl ⟨990, by decide⟩) kX12_copies sX12_copies (c_copies g (tq_cp I 118 (1343 * 2) 118 (1343 * 1) 1343) J 3 2 (by omega) (by omega) (by omega)) rfl rfl (by decide +kernel) rfl (by decide) (Nat.le_of_ble_eq_true rfl) rfl ⟨Nat.zero_le _, Nat.zero_le _⟩ ?_
          refine EV_blk (own := 12) C rfl [(.iinc 1 1, 0, 0, 0, (nI 1)), (.goto (-24), 0, 0, 0, 0)] (pc' := 2) (by decide +kernel) (lv' := [some (.ref 117), some (.int ((nI 2) + (nI 1)))]) (st' := []) (I' := (tq_cp (tq_cp I 118 (1343 * 2) 118 (1343 * 1) 1343) 118 (1343 * 3) 118 (1343 * 2) 1343)) (J' := J) rfl ?_
          refine EV_lve (lv' := [some (.ref 117), some (.int (nI 3))]) (by rw [show ((nI 2) + (nI 1)) = (nI 3) from by decide]) ?_
          refine EV_blk (own := 12) C rfl [(.iload_n 1, 0, 0, 0, 0), (.iconst 5, 0, 0, 0, (nI 5))] (pc' := 4) (by decide +kernel) (lv' := [some (.ref 117), some (.int (nI 3))]) (st' := [.int (nI 5), .int (nI 3)]) (I' := (tq_cp (tq_cp I 118 (1343 * 2) 118 (1343 * 1) 1343) 118 (1343 * 3) 118 (1343 * 2) 1343)) (J' := J) rfl ?_
          refine EV_icmp_ge (off := 25) (tgt := 29) C (by decide +kernel) (by decide) (fun h5 => ?_) (fun h5 => ?_)
          · skip
            exact absurd h5 (by decide)
          · skip
            refine EV_blk (own := 12) C rfl [(.aload_n 0, 0, 0, 0, 0), (.getfield 55, 12, 1, 900, 0), (.iconst 5, 0, 0, 0, (nI 5))] (pc' := 12) (by decide +kernel) (lv' := [some (.ref 117), some (.int (nI 3))]) (st' := [.int (nI 5), .int ((tq_cp (tq_cp I 118 (1343 * 2) 118 (1343 * 1) 1343) 118 (1343 * 3) 118 (1343 * 2) 1343) 117 1)]) (I' := (tq_cp (tq_cp I 118 (1343 * 2) 118 (1343 * 1) 1343) 118 (1343 * 3) 118 (1343 * 2) 1343)) (J' := J) rfl ?_
            refine EV_icmp_ne (off := 17) (tgt := 29) C (by decide +kernel) (by decide) (fun h6 => ?_) (fun h6 => ?_)
            · skip
              exact absurd (by first | exact hs | simp (disch := decide) only [tq_cp_cell]; exact hs) h6
            · skip
              refine EV_blk (own := 12) C rfl [(.aload_n 0, 0, 0, 0, 0), (.iload_n 1, 0, 0, 0, 0), (.iconst 1, 0, 0, 0, (nI 1)), (.iadd, 0, 0, 0, 0), (.iload_n 1, 0, 0, 0, 0)] (pc' := 20) (by decide +kernel) (lv' := [some (.ref 117), some (.int (nI 3))]) (st' := [.int (nI 3), .int ((nI 3) + (nI 1)), .ref 117]) (I' := (tq_cp (tq_cp I 118 (1343 * 2) 118 (1343 * 1) 1343) 118 (1343 * 3) 118 (1343 * 2) 1343)) (J' := J) rfl ?_
              refine EV_ste (st' := [.int (nI 3), .int (nI 4), .ref 117]) (by rw [show ((nI 3) + (nI 1)) = (nI 4) from by decide]) ?_
              refine EV_cV (own := 12) (idx := 59) (μ' := mX12_copies) (b := 117) (cb := 12) (av := [.int (nI 4), .int (nI 3)]) (rest := []) C hR rfl (Or.inl ⟨990, by decide⟩) kX12_copies sX12_copies (c_copies g (tq_cp (tq_cp I 118 (1343 * 2) 118 (1343 * 1) 1343) 118 (1343 * 3) 118 (1343 * 2) 1343) J 4 3 (by omega) (by omega) (by omega)) rfl rfl (by decide +kernel) rfl (by decide) (Nat.le_of_ble_eq_true rfl) rfl ⟨Nat.zero_le _, Nat.zero_le _⟩ ?_
              refine EV_blk (own := 12) C rfl [(.iinc 1 1, 0, 0, 0, (nI 1)), (.goto (-24), 0, 0, 0, 0)] (pc' := 2) (by decide +kernel) (lv' := [some (.ref 117), some (.int ((nI 3) + (nI 1)))]) (st' := []) (I' := (tq_cp (tq_cp (tq_cp I 118 (1343 * 2) 118 (1343 * 1) 1343) 118 (1343 * 3) 118 (1343 * 2) 1343) 118 (1343 * 4) 118 (1343 * 3) 1343)) (J' := J) rfl ?_
              refine EV_lve (lv' := [some (.ref 117), some (.int (nI 4))]) (by rw [show ((nI 3) + (nI 1)) = (nI 4) from by decide]) ?_
              refine EV_blk (own := 12) C rfl [(.iload_n 1, 0, 0, 0, 0), (.iconst 5, 0, 0, 0, (nI 5))] (pc' := 4) (by decide +kernel) (lv' := [some (.ref 117), some (.int (nI 4))]) (st' := [.int (nI 5), .int (nI 4)]) (I' := (tq_cp (tq_cp (tq_cp I 118 (1343 * 2) 118 (1343 * 1) 1343) 118 (1343 * 3) 118 (1343 * 2) 1343) 118 (1343 * 4) 118 (1343 * 3) 1343)) (J' := J) rfl ?_
              refine EV_icmp_ge (off := 25) (tgt := 29) C (by decide +kernel) (by decide) (fun h7 => ?_) (fun h7 => ?_)
              · skip
                exact absurd h7 (by decide)
              · skip
                refine EV_blk (own := 12) C rfl [(.aload_n 0, 0, 0, 0, 0), (.getfield 55, 12, 1, 900, 0), (.iconst 5, 0, 0, 0, (nI 5))] (pc' := 12) (by decide +kernel) (lv' := [some (.ref 117), some (.int (nI 4))]) (st' := [.int (nI 5), .int ((tq_cp (tq_cp (tq_cp I 118 (1343 * 2) 118 (1343 * 1) 1343) 118 (1343 * 3) 118 (1343 * 2) 1343) 118 (1343 * 4) 118 (1343 * 3) 1343) 117 1)]) (I' := (tq_cp (tq_cp (tq_cp I 118 (1343 * 2) 118 (1343 * 1) 1343) 118 (1343 * 3) 118 (1343 * 2) 1343) 118 (1343 * 4) 118 (1343 * 3) 1343)) (J' := J) rfl ?_
                refine EV_icmp_ne (off := 17) (tgt := 29) C (by decide +kernel) (by decide) (fun h8 => ?_) (fun h8 => ?_)
                · skip
                  exact absurd (by first | exact hs | simp (disch := decide) only [tq_cp_cell]; exact hs) h8
                · skip
                  refine EV_blk (own := 12) C rfl [(.aload_n 0, 0, 0, 0, 0), (.iload_n 1, 0, 0, 0, 0), (.iconst 1, 0, 0, 0, (nI 1)), (.iadd, 0, 0, 0, 0), (.iload_n 1, 0, 0, 0, 0)] (pc' := 20) (by decide +kernel) (lv' := [some (.ref 117), some (.int (nI 4))]) (st' := [.int (nI 4), .int ((nI 4) + (nI 1)), .ref 117]) (I' := (tq_cp (tq_cp (tq_cp I 118 (1343 * 2) 118 (1343 * 1) 1343) 118 (1343 * 3) 118 (1343 * 2) 1343) 118 (1343 * 4) 118 (1343 * 3) 1343)) (J' := J) rfl ?_
                  refine EV_ste (st' := [.int (nI 4), .int (nI 5), .ref 117]) (by rw [show ((nI 4) + (nI 1)) = (nI 5) from by decide]) ?_
                  refine EV_cV (own := 12) (idx := 59) (μ' := mX12_copies) (b := 117) (cb := 12) (av := [.int (nI 5), .int (nI 4)]) (rest := []) C hR rfl (Or.inl ⟨990, by decide⟩) kX12_copies sX12_copies (c_copies g (tq_cp (tq_cp (tq_cp I 118 (1343 * 2) 118 (1343 * 1) 1343) 118 (1343 * 3) 118 (1343 * 2) 1343) 118 (1343 * 4) 118 (1343 * 3) 1343) J 5 4 (by omega) (by omega) (by omega)) rfl rfl (by decide +kernel) rfl (by decide) (Nat.le_of_ble_eq_true rfl) rfl ⟨Nat.zero_le _, Nat.zero_le _⟩ ?_
                  refine EV_blk (own := 12) C rfl [(.iinc 1 1, 0, 0, 0, (nI 1)), (.goto (-24), 0, 0, 0, 0)] (pc' := 2) (by decide +kernel) (lv' := [some (.ref 117), some (.int ((nI 4) + (nI 1)))]) (st' := []) (I' := (tq_cp (tq_cp (tq_cp (tq_cp I 118 (1343 * 2) 118 (1343 * 1) 1343) 118 (1343 * 3) 118 (1343 * 2) 1343) 118 (1343 * 4) 118 (1343 * 3) 1343) 118 (1343 * 5) 118 (1343 * 4) 1343)) (J' := J) rfl ?_
                  refine EV_lve (lv' := [some (.ref 117), some (.int (nI 5))]) (by rw [show ((nI 4) + (nI 1)) = (nI 5) from by decide]) ?_
                  refine EV_blk (own := 12) C rfl [(.iload_n 1, 0, 0, 0, 0), (.iconst 5, 0, 0, 0, (nI 5))] (pc' := 4) (by decide +kernel) (lv' := [some (.ref 117), some (.int (nI 5))]) (st' := [.int (nI 5), .int (nI 5)]) (I' := (tq_cp (tq_cp (tq_cp (tq_cp I 118 (1343 * 2) 118 (1343 * 1) 1343) 118 (1343 * 3) 118 (1343 * 2) 1343) 118 (1343 * 4) 118 (1343 * 3) 1343) 118 (1343 * 5) 118 (1343 * 4) 1343)) (J' := J) rfl ?_
                  refine EV_icmp_ge (off := 25) (tgt := 29) C (by decide +kernel) (by decide) (fun h9 => ?_) (fun h9 => ?_)
                  · skip
                    refine EV_blk (own := 12) C rfl [(.aload_n 0, 0, 0, 0, 0), (.dup, 0, 0, 0, 0), (.getfield 55, 12, 1, 900, 0), (.aload_n 0, 0, 0, 0, 0), (.getfield 55, 12, 1, 900, 0), (.iconst 5, 0, 0, 0, (nI 5))] (pc' := 39) (by decide +kernel) (lv' := [some (.ref 117), some (.int (nI 5))]) (st' := [.int (nI 5), .int ((tq_cp (tq_cp (tq_cp (tq_cp I 118 (1343 * 2) 118 (1343 * 1) 1343) 118 (1343 * 3) 118 (1343 * 2) 1343) 118 (1343 * 4) 118 (1343 * 3) 1343) 118 (1343 * 5) 118 (1343 * 4) 1343) 117 1), .int ((tq_cp (tq_cp (tq_cp (tq_cp I 118 (1343 * 2) 118 (1343 * 1) 1343) 118 (1343 * 3) 118 (1343 * 2) 1343) 118 (1343 * 4) 118 (1343 * 3) 1343) 118 (1343 * 5) 118 (1343 * 4) 1343) 117 1), .ref 117]) (I' := (tq_cp (tq_cp (tq_cp (tq_cp I 118 (1343 * 2) 118 (1343 * 1) 1343) 118 (1343 * 3) 118 (1343 * 2) 1343) 118 (1343 * 4) 118 (1343 * 3) 1343) 118 (1343 * 5) 118 (1343 * 4) 1343)) (J' := J) rfl ?_
                    refine EV_icmp_ne (off := 7) (tgt := 46) C (by decide +kernel) (by decide) (fun h10 => ?_) (fun h10 => ?_)
                    · skip
                      exact absurd (by first | exact hs | simp (disch := decide) only [tq_cp_cell]; exact hs) h10
                    · skip
                      refine EV_blk (own := 12) C rfl [(.iconst 1, 0, 0, 0, (nI 1)), (.goto 4, 0, 0, 0, 0), (.isub, 0, 0, 0, 0), (.putfield 55, 12, 1, 900, 0), (.aload_n 0, 0, 0, 0, 0), (.dup, 0, 0, 0, 0), (.getfield 55, 12, 1, 900, 0), (.iconst 1, 0, 0, 0, (nI 1)), (.iadd, 0, 0, 0, 0), (.putfield 55, 12, 1, 900, 0), (.aload_n 0, 0, 0, 0, 0), (.iconst 0, 0, 0, 0, (nI 0)), (.aload_n 0, 0, 0, 0, 0), (.getfield 55, 12, 1, 900, 0)] (pc' := 67) (by decide +kernel) (lv' := [some (.ref 117), some (.int (nI 5))]) (st' := [.int ((tq_u (tq_u (tq_cp (tq_cp (tq_cp (tq_cp I 118 (1343 * 2) 118 (1343 * 1) 1343) 118 (1343 * 3) 118 (1343 * 2) 1343) 118 (1343 * 4) 118 (1343 * 3) 1343) 118 (1343 * 5) 118 (1343 * 4) 1343) 117 1 (((tq_cp (tq_cp (tq_cp (tq_cp I 118 (1343 * 2) 118 (1343 * 1) 1343) 118 (1343 * 3) 118 (1343 * 2) 1343) 118 (1343 * 4) 118 (1343 * 3) 1343) 118 (1343 * 5) 118 (1343 * 4) 1343) 117 1) - (nI 1))) 117 1 (((tq_u (tq_cp (tq_cp (tq_cp (tq_cp I 118 (1343 * 2) 118 (1343 * 1) 1343) 118 (1343 * 3) 118 (1343 * 2) 1343) 118 (1343 * 4) 118 (1343 * 3) 1343) 118 (1343 * 5) 118 (1343 * 4) 1343) 117 1 (((tq_cp (tq_cp (tq_cp (tq_cp I 118 (1343 * 2) 118 (1343 * 1) 1343) 118 (1343 * 3) 118 (1343 * 2) 1343) 118 (1343 * 4) 118 (1343 * 3) 1343) 118 (1343 * 5) 118 (1343 * 4) 1343) 117 1) - (nI 1))) 117 1) + (nI 1))) 117 1), .int (nI 0), .ref 117]) (I' := (tq_u (tq_u (tq_cp (tq_cp (tq_cp (tq_cp I 118 (1343 * 2) 118 (1343 * 1) 1343) 118 (1343 * 3) 118 (1343 * 2) 1343) 118 (1343 * 4) 118 (1343 * 3) 1343) 118 (1343 * 5) 118 (1343 * 4) 1343) 117 1 (((tq_cp (tq_cp (tq_cp (tq_cp I 118 (1343 * 2) 118 (1343 * 1) 1343) 118 (1343 * 3) 118 (1343 * 2) 1343) 118 (1343 * 4) 118 (1343 * 3) 1343) 118 (1343 * 5) 118 (1343 * 4) 1343) 117 1) - (nI 1))) 117 1 (((tq_u (tq_cp (tq_cp (tq_cp (tq_cp I 118 (1343 * 2) 118 (1343 * 1) 1343) 118 (1343 * 3) 118 (1343 * 2) 1343) 118 (1343 * 4) 118 (1343 * 3) 1343) 118 (1343 * 5) 118 (1343 * 4) 1343) 117 1 (((tq_cp (tq_cp (tq_cp (tq_cp I 118 (1343 * 2) 118 (1343 * 1) 1343) 118 (1343 * 3) 118 (1343 * 2) 1343) 118 (1343 * 4) 118 (1343 * 3) 1343) 118 (1343 * 5) 118 (1343 * 4) 1343) 117 1) - (nI 1))) 117 1) + (nI 1)))) (J' := J) rfl ?_
                      refine EV_ste (st' := [.int (nI 5), .int (nI 0), .ref 117]) (by simp (disch := decide) only [tq_u_same, tq_cp_cell, hs]; rfl) ?_
                      refine EV_cV (own := 12) (idx := 59) (μ' := mX12_copies) (b := 117) (cb := 12) (av := [.int (nI 0), .int (nI 5)]) (rest := []) C hR rfl (Or.inl ⟨990, by decide⟩) kX12_copies sX12_copies (c_copies g (tq_u (tq_u (tq_cp (tq_cp (tq_cp (tq_cp I 118 (1343 * 2) 118 (1343 * 1) 1343) 118 (1343 * 3) 118 (1343 * 2) 1343) 118 (1343 * 4) 118 (1343 * 3) 1343) 118 (1343 * 5) 118 (1343 * 4) 1343) 117 1 (((tq_cp (tq_cp (tq_cp (tq_cp I 118 (1343 * 2) 118 (1343 * 1) 1343) 118 (1343 * 3) 118 (1343 * 2) 1343) 118 (1343 * 4) 118 (1343 * 3) 1343) 118 (1343 * 5) 118 (1343 * 4) 1343) 117 1) - (nI 1))) 117 1 (((tq_u (tq_cp (tq_cp (tq_cp (tq_cp I 118 (1343 * 2) 118 (1343 * 1) 1343) 118 (1343 * 3) 118 (1343 * 2) 1343) 118 (1343 * 4) 118 (1343 * 3) 1343) 118 (1343 * 5) 118 (1343 * 4) 1343) 117 1 (((tq_cp (tq_cp (tq_cp (tq_cp I 118 (1343 * 2) 118 (1343 * 1) 1343) 118 (1343 * 3) 118 (1343 * 2) 1343) 118 (1343 * 4) 118 (1343 * 3) 1343) 118 (1343 * 5) 118 (1343 * 4) 1343) 117 1) - (nI 1))) 117 1) + (nI 1))) J 0 5 (by omega) (by omega) (by omega)) rfl rfl (by decide +kernel) rfl (by decide) (Nat.le_of_ble_eq_true rfl) rfl ⟨Nat.zero_le _, Nat.zero_le _⟩ ?_
                      exact EV_vret C hZ rfl (by decide +kernel) (Nat.le_refl _) (Nat.le_refl _) ⟨rfl, rfl, rfl, by simp (disch := decide) only [tr_sav, if_true, tq_cp_cell, tq_uu, tq_u_same, hs]; rfl, rfl⟩
                  · skip
                    exact absurd (by decide) h9
set_option maxRecDepth 20000 in
theorem c_savesL (g : tq_G) (I : tq_I) (J : Int64) (s : Nat) (hs : I 117 1 = nI s) (hs5 : s ≤ 5) (h5 : ¬ s = 5) : CT g mX12_saves 1 0 0 [.ref 117] (tq_SC ++ tq_SR) tq_RR I J (tq_ret (tq_SC ++ tq_SR) tq_RR none (tr_sav I s) J) := by
  refine CT.ret kX12_saves (Nat.le_of_ble_eq_true rfl) (fun x0 C hR hZ => ?_)
  refine EV_en (lv' := [some (.ref 117), none]) 1 rfl ?_
  refine EV_blk (own := 12) C rfl [(.iconst 1, 0, 0, 0, (nI 1)), (.istore_n 1, 0, 0, 0, 0)] (pc' := 2) (by decide +kernel) (lv' := [some (.ref 117), some (.int (nI 1))]) (st' := []) (I' := I) (J' := J) rfl ?_
  refine EV_blk (own := 12) C rfl [(.iload_n 1, 0, 0, 0, 0), (.iconst 5, 0, 0, 0, (nI 5))] (pc' := 4) (by decide +kernel) (lv' := [some (.ref 117), some (.int (nI 1))]) (st' := [.int (nI 5), .int (nI 1)]) (I' := I) (J' := J) rfl ?_
  refine EV_icmp_ge (off := 25) (tgt := 29) C (by decide +kernel) (by decide) (fun h1 => ?_) (fun h1 => ?_)
  · skip
    exact absurd h1 (by decide)
  · skip
    refine EV_blk (own := 12) C rfl [(.aload_n 0, 0, 0, 0, 0), (.getfield 55, 12, 1, 900, 0), (.iconst 5, 0, 0, 0, (nI 5))] (pc' := 12) (by decide +kernel) (lv' := [some (.ref 117), some (.int (nI 1))]) (st' := [.int (nI 5), .int (I 117 1)]) (I' := I) (J' := J) rfl ?_
    refine EV_icmp_ne (off := 17) (tgt := 29) C (by decide +kernel) (by decide) (fun h2 => ?_) (fun h2 => ?_)
    · skip
      refine EV_blk (own := 12) C rfl [(.aload_n 0, 0, 0, 0, 0), (.dup, 0, 0, 0, 0), (.getfield 55, 12, 1, 900, 0), (.aload_n 0, 0, 0, 0, 0), (.getfield 55, 12, 1, 900, 0), (.iconst 5, 0, 0, 0, (nI 5))] (pc' := 39) (by decide +kernel) (lv' := [some (.ref 117), some (.int (nI 1))]) (st' := [.int (nI 5), .int (I 117 1), .int (I 117 1), .ref 117]) (I' := I) (J' := J) rfl ?_
      refine EV_icmp_ne (off := 7) (tgt := 46) C (by decide +kernel) (by decide) (fun h3 => ?_) (fun h3 => ?_)
      · skip
        refine EV_blk (own := 12) C rfl [(.iconst 0, 0, 0, 0, (nI 0)), (.isub, 0, 0, 0, 0), (.putfield 55, 12, 1, 900, 0), (.aload_n 0, 0, 0, 0, 0), (.dup, 0, 0, 0, 0), (.getfield 55, 12, 1, 900, 0), (.iconst 1, 0, 0, 0, (nI 1)), (.iadd, 0, 0, 0, 0), (.putfield 55, 12, 1, 900, 0), (.aload_n 0, 0, 0, 0, 0), (.iconst 0, 0, 0, 0, (nI 0)), (.aload_n 0, 0, 0, 0, 0), (.getfield 55, 12, 1, 900, 0)] (pc' := 67) (by decide +kernel) (lv' := [some (.ref 117), some (.int (nI 1))]) (st' := [.int ((tq_u (tq_u I 117 1 ((I 117 1) - (nI 0))) 117 1 (((tq_u I 117 1 ((I 117 1) - (nI 0))) 117 1) + (nI 1))) 117 1), .int (nI 0), .ref 117]) (I' := (tq_u (tq_u I 117 1 ((I 117 1) - (nI 0))) 117 1 (((tq_u I 117 1 ((I 117 1) - (nI 0))) 117 1) + (nI 1)))) (J' := J) rfl ?_
        refine EV_ste (st' := [.int (nI (s + 1)), .int (nI 0), .ref 117]) (by simp (disch := omega) only [tq_u_same, hs, tq_sub_nI, Nat.sub_zero, nI_add]) ?_
        refine EV_cV (own := 12) (idx := 59) (μ' := mX12_copies) (b := 117) (cb := 12) (av := [.int (nI 0), .int (nI (s + 1))]) (rest := []) C hR rfl (Or.inl ⟨990, by decide⟩) kX12_copies sX12_copies (c_copies g (tq_u (tq_u I 117 1 ((I 117 1) - (nI 0))) 117 1 (((tq_u I 117 1 ((I 117 1) - (nI 0))) 117 1) + (nI 1))) J 0 (s + 1) (by omega) (by omega) (by omega)) rfl rfl (by decide +kernel) rfl (by decide) (Nat.le_of_ble_eq_true rfl) rfl ⟨Nat.zero_le _, Nat.zero_le _⟩ ?_
        exact EV_vret C hZ rfl (by decide +kernel) (Nat.le_refl _) (Nat.le_refl _) ⟨rfl, rfl, rfl, by simp (disch := omega) only [tr_sav, if_neg h5, tq_uu, tq_u_same, hs, tq_sub_nI, Nat.sub_zero, nI_add], rfl⟩
      · skip
        exact absurd h3 (fun e => h5 (tr_inj (by omega) (by omega) (hs.symm.trans e)))
    · skip
      exact absurd h2 (fun e => h5 (tr_inj (by omega) (by omega) (hs.symm.trans e)))
theorem c_saves (g : tq_G) (I : tq_I) (J : Int64) (s : Nat) (hs : I 117 1 = nI s) (hs5 : s ≤ 5) : CT g mX12_saves 1 0 0 [.ref 117] (tq_SC ++ tq_SR) tq_RR I J (tq_ret (tq_SC ++ tq_SR) tq_RR none (tr_sav I s) J) := by
  by_cases h5 : s = 5
  · subst h5
    exact c_saves5 g I J hs
  · exact c_savesL g I J s hs hs5 h5
theorem fr_sav {I : tq_I} {s cz : Nat} (hc : cz ≠ 117 ∧ cz ≠ 118) (jz : Nat) : tr_sav I s cz jz = I cz jz := by
  unfold tr_sav
  split <;> simp (disch := first | exact hc.1 | exact hc.2) only [tq_cp_cell, tq_u_cell]
/-- the present state stays -/
theorem fs_sav {I : tq_I} {s j : Nat} (hj : j < 1343) : tr_sav I s 118 j = I 118 j := by
  unfold tr_sav
  split
  · simp only [tq_cp, tq_u]
    simp (disch := omega) only [if_neg]
  · simp only [tq_cp, tq_u]
    rw [if_neg (fun q => by omega)]
    simp
theorem tr_wh.sav {I : tq_I} {w h s : Nat} (k : tr_wh I w h) : tr_wh (tr_sav I s) w h := k.cong (fs_sav (by decide)) (fs_sav (by decide))
def f_bg1 (w h : Nat) (i : Nat) (a : tq_I) : tq_I := (tq_u a 118 (22 + i) (nI 0))
set_option maxRecDepth 20000 in
theorem lp_bg1 {g : tq_G} {x0 : tq_X} (C : tq_C g mX12_begins x0) (hR : tq_ht x0 4 0 0) (J : Int64) (w h : Nat)  : ∀ (n i : Nat) (a : tq_I), i + n = 1321 → EV g mX12_begins x0 0 0 37 [some (.ref 117), some (.int (nI w)), some (.int (nI h)), some (.int (nI (22 + (i + n))))] [] (tq_SC ++ tq_SR) tq_RR (tq_it (f_bg1 w h) n i a) J → EV g mX12_begins x0 0 0 17 [some (.ref 117), some (.int (nI w)), some (.int (nI h)), some (.int (nI (22 + i)))] [] (tq_SC ++ tq_SR) tq_RR a J := by
  intro n
  induction n with
  | zero =>
    intro i a hi kk
    rw [Nat.add_zero] at kk
    refine EV_blk (own := 12) C rfl [(.iload_n 3, 0, 0, 0, 0), (.sipush 1343, 0, 0, 0, (nI 1343))] (pc' := 21) (by decide +kernel) (lv' := [some (.ref 117), some (.int (nI w)), some (.int (nI h)), some (.int (nI (22 + i)))]) (st' := [.int (nI 1343), .int (nI (22 + i))]) (I' := a) (J' := J) rfl ?_
    refine EV_icmp_ge (off := 16) (tgt := 37) C (by decide +kernel) (by decide) (fun h1 => ?_) (fun h1 => ?_)
    · skip
      exact kk
    · skip
      exact absurd h1 (by simp (disch := omega) only [Int32.lt_iff_toInt_lt, Int32.le_iff_toInt_le, Int32.toInt_zero, nI_toInt, tq_m1]; omega)
  | succ n ih =>
    intro i a hi kk
    rw [show i + (n + 1) = (i + 1) + n by omega] at kk
    refine EV_blk (own := 12) C rfl [(.iload_n 3, 0, 0, 0, 0), (.sipush 1343, 0, 0, 0, (nI 1343))] (pc' := 21) (by decide +kernel) (lv' := [some (.ref 117), some (.int (nI w)), some (.int (nI h)), some (.int (nI (22 + i)))]) (st' := [.int (nI 1343), .int (nI (22 + i))]) (I' := a) (J' := J) rfl ?_
    refine EV_icmp_ge (off := 16) (tgt := 37) C (by decide +kernel) (by decide) (fun h1 => ?_) (fun h1 => ?_)
    · skip
      exact absurd h1 (by simp (disch := omega) only [Int32.lt_iff_toInt_lt, Int32.le_iff_toInt_le, Int32.toInt_zero, nI_toInt, tq_m1]; omega)
    · skip
      refine EV_blk (own := 12) C rfl [(.aload_n 0, 0, 0, 0, 0), (.getfield 7, 12, 0, 899, 0), (.iload_n 3, 0, 0, 0, 0), (.iconst 0, 0, 0, 0, (nI 0))] (pc' := 30) (by decide +kernel) (lv' := [some (.ref 117), some (.int (nI w)), some (.int (nI h)), some (.int (nI (22 + i)))]) (st' := [.int (nI 0), .int (nI (22 + i)), .ref 118]) (I' := a) (J' := J) rfl ?_
      refine EV_iast (j := 22 + i) C (by decide +kernel) rfl (nI_toInt (by omega)) (by omega) ?_
      refine EV_blk (own := 12) C rfl [(.iinc 3 1, 0, 0, 0, (nI 1)), (.goto (-17), 0, 0, 0, 0)] (pc' := 17) (by decide +kernel) (lv' := [some (.ref 117), some (.int (nI w)), some (.int (nI h)), some (.int ((nI (22 + i)) + (nI 1)))]) (st' := []) (I' := (tq_u a 118 (22 + i) (nI 0))) (J' := J) rfl ?_
      rw [show ((nI (22 + i)) + (nI 1)) = (nI (22 + (i + 1))) from by simp (disch := omega) only [nI_add, tq_mul] <;> exact congrArg nI (by omega)]
      rw [tq_its, show (f_bg1 w h) i a = (tq_u a 118 (22 + i) (nI 0)) from by simp only [f_bg1, if_neg h1]] at kk
      exact ih (i + 1) (tq_u a 118 (22 + i) (nI 0)) (by omega) kk
theorem fr_bg1 (w h : Nat) {cz : Nat} (hc : cz ≠ 118) (n i : Nat) (a : tq_I) (jz : Nat) : (tq_it (f_bg1 w h) n i a) cz jz = a cz jz := by
  have hc0 := hc
  refine tq_itF (fun i a j => ?_) n i a jz
  simp only [f_bg1]
  (repeat' split) <;> simp (disch := first | assumption | (simp only [ne_eq] at *; simp [*])) [tq_u, tq_cp, hc0, fr_X12_touches, fr_ta1, fr_X12_touchesAll, fr_cps1, fr_X12_copies, fr_sav]
def f_bg2 (w h : Nat) (i : Nat) (a : tq_I) : tq_I := (tq_u a 118 ((343 + (10 * i)) + 1) (-1))
set_option maxRecDepth 20000 in
theorem lp_bg2 {g : tq_G} {x0 : tq_X} (C : tq_C g mX12_begins x0) (hR : tq_ht x0 4 0 0) (J : Int64) (w h : Nat)  : ∀ (n i : Nat) (a : tq_I), i + n = 100 → EV g mX12_begins x0 0 0 67 [some (.ref 117), some (.int (nI w)), some (.int (nI h)), some (.int (nI (i + n)))] [] (tq_SC ++ tq_SR) tq_RR (tq_it (f_bg2 w h) n i a) J → EV g mX12_begins x0 0 0 39 [some (.ref 117), some (.int (nI w)), some (.int (nI h)), some (.int (nI i))] [] (tq_SC ++ tq_SR) tq_RR a J := by
  intro n
  induction n with
  | zero =>
    intro i a hi kk
    rw [Nat.add_zero] at kk
    refine EV_blk (own := 12) C rfl [(.iload_n 3, 0, 0, 0, 0), (.bipush 100, 0, 0, 0, (nI 100))] (pc' := 42) (by decide +kernel) (lv' := [some (.ref 117), some (.int (nI w)), some (.int (nI h)), some (.int (nI i))]) (st' := [.int (nI 100), .int (nI i)]) (I' := a) (J' := J) rfl ?_
    refine EV_icmp_ge (off := 25) (tgt := 67) C (by decide +kernel) (by decide) (fun h1 => ?_) (fun h1 => ?_)
    · skip
      exact kk
    · skip
      exact absurd h1 (by simp (disch := omega) only [Int32.lt_iff_toInt_lt, Int32.le_iff_toInt_le, Int32.toInt_zero, nI_toInt, tq_m1]; omega)
  | succ n ih =>
    intro i a hi kk
    rw [show i + (n + 1) = (i + 1) + n by omega] at kk
    refine EV_blk (own := 12) C rfl [(.iload_n 3, 0, 0, 0, 0), (.bipush 100, 0, 0, 0, (nI 100))] (pc' := 42) (by decide +kernel) (lv' := [some (.ref 117), some (.int (nI w)), some (.int (nI h)), some (.int (nI i))]) (st' := [.int (nI 100), .int (nI i)]) (I' := a) (J' := J) rfl ?_
    refine EV_icmp_ge (off := 25) (tgt := 67) C (by decide +kernel) (by decide) (fun h1 => ?_) (fun h1 => ?_)
    · skip
      exact absurd h1 (by simp (disch := omega) only [Int32.lt_iff_toInt_lt, Int32.le_iff_toInt_le, Int32.toInt_zero, nI_toInt, tq_m1]; omega)
    · skip
      refine EV_blk (own := 12) C rfl [(.aload_n 0, 0, 0, 0, 0), (.getfield 7, 12, 0, 899, 0), (.sipush 343, 0, 0, 0, (nI 343)), (.bipush 10, 0, 0, 0, (nI 10)), (.iload_n 3, 0, 0, 0, 0), (.imul, 0, 0, 0, 0), (.iadd, 0, 0, 0, 0), (.iconst 1, 0, 0, 0, (nI 1)), (.iadd, 0, 0, 0, 0), (.iconst (-1), 0, 0, 0, (-1))] (pc' := 60) (by decide +kernel) (lv' := [some (.ref 117), some (.int (nI w)), some (.int (nI h)), some (.int (nI i))]) (st' := [.int (-1), .int (((nI 343) + ((nI 10) * (nI i))) + (nI 1)), .ref 118]) (I' := a) (J' := J) rfl ?_
      refine EV_iast (j := ((343 + (10 * i)) + 1)) C (by decide +kernel) rfl (tq_toI ((343 + (10 * i)) + 1) (by simp (disch := omega) only [nI_add, tq_mul, tq_rem_nI, tq_div_nI, tq_sub_nI]) (by omega)) (by omega) ?_
      refine EV_blk (own := 12) C rfl [(.iinc 3 1, 0, 0, 0, (nI 1)), (.goto (-25), 0, 0, 0, 0)] (pc' := 39) (by decide +kernel) (lv' := [some (.ref 117), some (.int (nI w)), some (.int (nI h)), some (.int ((nI i) + (nI 1)))]) (st' := []) (I' := (tq_u a 118 ((343 + (10 * i)) + 1) (-1))) (J' := J) rfl ?_
      rw [show ((nI i) + (nI 1)) = (nI (i + 1)) from by simp (disch := omega) only [nI_add, tq_mul] <;> exact congrArg nI (by omega)]
      rw [tq_its, show (f_bg2 w h) i a = (tq_u a 118 ((343 + (10 * i)) + 1) (-1)) from by simp only [f_bg2, if_neg h1]] at kk
      exact ih (i + 1) (tq_u a 118 ((343 + (10 * i)) + 1) (-1)) (by omega) kk
theorem fr_bg2 (w h : Nat) {cz : Nat} (hc : cz ≠ 118) (n i : Nat) (a : tq_I) (jz : Nat) : (tq_it (f_bg2 w h) n i a) cz jz = a cz jz := by
  have hc0 := hc
  refine tq_itF (fun i a j => ?_) n i a jz
  simp only [f_bg2]
  (repeat' split) <;> simp (disch := first | assumption | (simp only [ne_eq] at *; simp [*])) [tq_u, tq_cp, hc0, fr_X12_touches, fr_ta1, fr_X12_touchesAll, fr_cps1, fr_X12_copies, fr_sav, fr_bg1]
theorem fs_bg1 {I : tq_I} {w h : Nat} (n i : Nat) (j : Nat) (hj : j < 22 ∨ 1343 ≤ j) (hi : i + n ≤ 1321) : tq_it (f_bg1 w h) n i I 118 j = I 118 j :=
  tq_itB (fun a => a 118 j = I 118 j) 1321 (fun i a hi ha => by rw [← ha]; exact tq_u_slot (by omega)) n i I hi rfl
theorem fs_bg2 {I : tq_I} {w h : Nat} (n i : Nat) (j : Nat) (hj : j < 343 ∨ 1343 ≤ j) (hi : i + n ≤ 100) : tq_it (f_bg2 w h) n i I 118 j = I 118 j :=
  tq_itB (fun a => a 118 j = I 118 j) 100 (fun i a hi ha => by rw [← ha]; exact tq_u_slot (by omega)) n i I hi rfl
def I_X12_begins (I : tq_I) (w h : Nat) : tq_I := (I_X12_touchesAll (tq_it (f_bg2 w h) 100 0 (tq_it (f_bg1 w h) 1321 0 (tq_u (tq_u I 118 0 (nI w)) 118 1 (nI h)))) w h)
set_option maxRecDepth 20000 in
theorem c_X12_begins (g : tq_G) (I : tq_I) (J : Int64) (w h : Nat) (hw : 1 ≤ w ∧ w ≤ 10) (hh : 1 ≤ h ∧ h ≤ 10) : CT g mX12_begins 4 0 0 [.ref 117, .int (nI w), .int (nI h)] (tq_SC ++ tq_SR) tq_RR I J (tq_ret (tq_SC ++ tq_SR) tq_RR none (I_X12_begins I w h) J) := by
  refine CT.ret kX12_begins (Nat.le_of_ble_eq_true rfl) (fun x0 C hR hZ => ?_)
  refine EV_en (lv' := [some (.ref 117), some (.int (nI w)), some (.int (nI h)), none]) 1 rfl ?_
  refine EV_blk (own := 12) C rfl [(.aload_n 0, 0, 0, 0, 0), (.getfield 7, 12, 0, 899, 0), (.iconst 0, 0, 0, 0, (nI 0)), (.iload_n 1, 0, 0, 0, 0)] (pc' := 6) (by decide +kernel) (lv' := [some (.ref 117), some (.int (nI w)), some (.int (nI h)), none]) (st' := [.int (nI w), .int (nI 0), .ref 118]) (I' := I) (J' := J) rfl ?_
  refine EV_iast (j := 0) C (by decide +kernel) rfl (nI_toInt (by omega)) (by omega) ?_
  refine EV_blk (own := 12) C rfl [(.aload_n 0, 0, 0, 0, 0), (.getfield 7, 12, 0, 899, 0), (.iconst 1, 0, 0, 0, (nI 1)), (.iload_n 2, 0, 0, 0, 0)] (pc' := 13) (by decide +kernel) (lv' := [some (.ref 117), some (.int (nI w)), some (.int (nI h)), none]) (st' := [.int (nI h), .int (nI 1), .ref 118]) (I' := (tq_u I 118 0 (nI w))) (J' := J) rfl ?_
  refine EV_iast (j := 1) C (by decide +kernel) rfl (nI_toInt (by omega)) (by omega) ?_
  refine EV_blk (own := 12) C rfl [(.bipush 22, 0, 0, 0, (nI 22)), (.istore_n 3, 0, 0, 0, 0)] (pc' := 17) (by decide +kernel) (lv' := [some (.ref 117), some (.int (nI w)), some (.int (nI h)), some (.int (nI 22))]) (st' := []) (I' := (tq_u (tq_u I 118 0 (nI w)) 118 1 (nI h))) (J' := J) rfl ?_
  refine lp_bg1 C hR J w h  1321 0 (tq_u (tq_u I 118 0 (nI w)) 118 1 (nI h)) (by omega) ?_
  refine EV_blk (own := 12) C rfl [(.iconst 0, 0, 0, 0, (nI 0)), (.istore_n 3, 0, 0, 0, 0)] (pc' := 39) (by decide +kernel) (lv' := [some (.ref 117), some (.int (nI w)), some (.int (nI h)), some (.int (nI 0))]) (st' := []) (I' := (tq_it (f_bg1 w h) 1321 0 (tq_u (tq_u I 118 0 (nI w)) 118 1 (nI h)))) (J' := J) rfl ?_
  refine lp_bg2 C hR J w h  100 0 (tq_it (f_bg1 w h) 1321 0 (tq_u (tq_u I 118 0 (nI w)) 118 1 (nI h))) (by omega) ?_
  refine EV_blk (own := 12) C rfl [(.aload_n 0, 0, 0, 0, 0)] (pc' := 68) (by decide +kernel) (lv' := [some (.ref 117), some (.int (nI w)), some (.int (nI h)), some (.int (nI ((0 + 100))))]) (st' := [.ref 117]) (I' := (tq_it (f_bg2 w h) 100 0 (tq_it (f_bg1 w h) 1321 0 (tq_u (tq_u I 118 0 (nI w)) 118 1 (nI h))))) (J' := J) rfl ?_
  refine EV_cV (own := 12) (idx := 73) (μ' := mX12_touchesAll) (b := 117) (cb := 12) (av := []) (rest := []) C hR rfl (Or.inl ⟨884, by decide⟩) kX12_touchesAll sX12_touchesAll (c_X12_touchesAll g (tq_it (f_bg2 w h) 100 0 (tq_it (f_bg1 w h) 1321 0 (tq_u (tq_u I 118 0 (nI w)) 118 1 (nI h)))) J w h ⟨by rw [fs_bg2 _ _ _ (by decide) (by decide), fs_bg1 _ _ _ (by decide) (by decide), tq_u_slot (by decide), tq_u_same], by rw [fs_bg2 _ _ _ (by decide) (by decide), fs_bg1 _ _ _ (by decide) (by decide), tq_u_same], hw.1, hw.2, hh.1, hh.2⟩) rfl rfl (by decide +kernel) rfl (by decide) (Nat.le_of_ble_eq_true rfl) rfl ⟨Nat.zero_le _, Nat.zero_le _⟩ ?_
  exact EV_vret C hZ rfl (by decide +kernel) (Nat.le_refl _) (Nat.le_refl _) ⟨rfl, rfl, rfl, by simp only [I_X12_begins], rfl⟩
theorem fr_X12_begins (I : tq_I) (w h : Nat) {cz : Nat} (hc : cz ≠ 118) (jz : Nat) : I_X12_begins I w h cz jz = I cz jz := by
  have hc0 := hc
  simp only [I_X12_begins]
  (repeat' split) <;> simp (disch := first | assumption | (simp only [ne_eq] at *; simp [*])) [tq_u, tq_cp, hc0, fr_X12_touches, fr_ta1, fr_X12_touchesAll, fr_cps1, fr_X12_copies, fr_sav, fr_bg1, fr_bg2]
theorem fs_begins {I : tq_I} {w h : Nat} (hw : 1 ≤ w ∧ w ≤ 10) (hh : 1 ≤ h ∧ h ≤ 10) (j : Nat) : I_X12_begins I w h 118 j = tq_it (f_ta1 w h) 100 0 (tq_it (f_bg2 w h) 100 0 (tq_it (f_bg1 w h) 1321 0 (tq_u (tq_u I 118 0 (nI w)) 118 1 (nI h)))) 118 j := rfl
theorem tr_wh.begins {I : tq_I} {w h : Nat} (hw : 1 ≤ w ∧ w ≤ 10) (hh : 1 ≤ h ∧ h ≤ 10) : tr_wh (I_X12_begins I w h) w h := by
  unfold I_X12_begins
  exact tr_wh.touchesAll ⟨by rw [fs_bg2 _ _ _ (by decide) (by decide), fs_bg1 _ _ _ (by decide) (by decide), tq_u_slot (by decide), tq_u_same], by rw [fs_bg2 _ _ _ (by decide) (by decide), fs_bg1 _ _ _ (by decide) (by decide), tq_u_same], hw.1, hw.2, hh.1, hh.2⟩
def f_ly1 (x y : Nat) (t : Int32) (w h : Nat) (i : Nat) (a : tq_I) : tq_I := (I_X12_touches a ((nI x) - (tq_rem (nI i) (nI 2))) ((nI y) - ((nI i) / (nI 2))) w h)
set_option maxRecDepth 20000 in
theorem lp_ly1 {g : tq_G} {x0 : tq_X} (C : tq_C g mX12_lays x0) (hR : tq_ht x0 3 0 0) (J : Int64) (x y : Nat) (t : Int32) (w h : Nat)  : ∀ (n i : Nat) (a : tq_I), i + n = 4 → tr_wh a w h → EV g mX12_lays x0 0 0 58 [some (.ref 117), some (.int (nI x)), some (.int (nI y)), some (.int t), some (.int (nI (i + n)))] [] (tq_SC ++ tq_SR) tq_RR (tq_it (f_ly1 x y t w h) n i a) J → EV g mX12_lays x0 0 0 30 [some (.ref 117), some (.int (nI x)), some (.int (nI y)), some (.int t), some (.int (nI i))] [] (tq_SC ++ tq_SR) tq_RR a J := by
  intro n
  induction n with
  | zero =>
    intro i a hi hI kk
    rw [Nat.add_zero] at kk
    refine EV_blk (own := 12) C rfl [(.iload 4, 0, 0, 0, 0), (.iconst 4, 0, 0, 0, (nI 4))] (pc' := 33) (by decide +kernel) (lv' := [some (.ref 117), some (.int (nI x)), some (.int (nI y)), some (.int t), some (.int (nI i))]) (st' := [.int (nI 4), .int (nI i)]) (I' := a) (J' := J) rfl ?_
    refine EV_icmp_ge (off := 25) (tgt := 58) C (by decide +kernel) (by decide) (fun h1 => ?_) (fun h1 => ?_)
    · skip
      exact kk
    · skip
      exact absurd h1 (by simp (disch := omega) only [Int32.lt_iff_toInt_lt, Int32.le_iff_toInt_le, Int32.toInt_zero, nI_toInt, tq_m1]; omega)
  | succ n ih =>
    intro i a hi hI kk
    rw [show i + (n + 1) = (i + 1) + n by omega] at kk
    refine EV_blk (own := 12) C rfl [(.iload 4, 0, 0, 0, 0), (.iconst 4, 0, 0, 0, (nI 4))] (pc' := 33) (by decide +kernel) (lv' := [some (.ref 117), some (.int (nI x)), some (.int (nI y)), some (.int t), some (.int (nI i))]) (st' := [.int (nI 4), .int (nI i)]) (I' := a) (J' := J) rfl ?_
    refine EV_icmp_ge (off := 25) (tgt := 58) C (by decide +kernel) (by decide) (fun h1 => ?_) (fun h1 => ?_)
    · skip
      exact absurd h1 (by simp (disch := omega) only [Int32.lt_iff_toInt_lt, Int32.le_iff_toInt_le, Int32.toInt_zero, nI_toInt, tq_m1]; omega)
    · skip
      refine EV_blk (own := 12) C rfl [(.aload_n 0, 0, 0, 0, 0), (.iload_n 1, 0, 0, 0, 0), (.iload 4, 0, 0, 0, 0), (.iconst 2, 0, 0, 0, (nI 2))] (pc' := 41) (by decide +kernel) (lv' := [some (.ref 117), some (.int (nI x)), some (.int (nI y)), some (.int t), some (.int (nI i))]) (st' := [.int (nI 2), .int (nI i), .int (nI x), .ref 117]) (I' := a) (J' := J) rfl ?_
      refine EV_irem C (by decide +kernel) (by decide) ?_
      refine EV_blk (own := 12) C rfl [(.isub, 0, 0, 0, 0), (.iload_n 2, 0, 0, 0, 0), (.iload 4, 0, 0, 0, 0), (.iconst 2, 0, 0, 0, (nI 2))] (pc' := 47) (by decide +kernel) (lv' := [some (.ref 117), some (.int (nI x)), some (.int (nI y)), some (.int t), some (.int (nI i))]) (st' := [.int (nI 2), .int (nI i), .int (nI y), .int ((nI x) - (tq_rem (nI i) (nI 2))), .ref 117]) (I' := a) (J' := J) rfl ?_
      refine EV_idiv C (by decide +kernel) (by decide) ?_
      refine EV_blk (own := 12) C rfl [(.isub, 0, 0, 0, 0)] (pc' := 49) (by decide +kernel) (lv' := [some (.ref 117), some (.int (nI x)), some (.int (nI y)), some (.int t), some (.int (nI i))]) (st' := [.int ((nI y) - ((nI i) / (nI 2))), .int ((nI x) - (tq_rem (nI i) (nI 2))), .ref 117]) (I' := a) (J' := J) rfl ?_
      refine EV_cV (own := 12) (idx := 70) (μ' := mX12_touches) (b := 117) (cb := 12) (av := [.int ((nI x) - (tq_rem (nI i) (nI 2))), .int ((nI y) - ((nI i) / (nI 2)))]) (rest := []) C hR rfl (Or.inl ⟨888, by decide⟩) kX12_touches sX12_touches (c_X12_touches g a J ((nI x) - (tq_rem (nI i) (nI 2))) ((nI y) - ((nI i) / (nI 2))) w h hI) rfl rfl (by decide +kernel) rfl (by decide) (Nat.le_of_ble_eq_true rfl) rfl ⟨Nat.zero_le _, Nat.zero_le _⟩ ?_
      refine EV_blk (own := 12) C rfl [(.iinc 4 1, 0, 0, 0, (nI 1)), (.goto (-25), 0, 0, 0, 0)] (pc' := 30) (by decide +kernel) (lv' := [some (.ref 117), some (.int (nI x)), some (.int (nI y)), some (.int t), some (.int ((nI i) + (nI 1)))]) (st' := []) (I' := (I_X12_touches a ((nI x) - (tq_rem (nI i) (nI 2))) ((nI y) - ((nI i) / (nI 2))) w h)) (J' := J) rfl ?_
      rw [show ((nI i) + (nI 1)) = (nI (i + 1)) from by simp (disch := omega) only [nI_add, tq_mul] <;> exact congrArg nI (by omega)]
      rw [tq_its, show (f_ly1 x y t w h) i a = (I_X12_touches a ((nI x) - (tq_rem (nI i) (nI 2))) ((nI y) - ((nI i) / (nI 2))) w h) from by simp only [f_ly1, if_neg h1]] at kk
      exact ih (i + 1) (I_X12_touches a ((nI x) - (tq_rem (nI i) (nI 2))) ((nI y) - ((nI i) / (nI 2))) w h) (by omega) hI.touches kk
theorem fr_ly1 (x y : Nat) (t : Int32) (w h : Nat) {cz : Nat} (hc : cz ≠ 118) (n i : Nat) (a : tq_I) (jz : Nat) : (tq_it (f_ly1 x y t w h) n i a) cz jz = a cz jz := by
  have hc0 := hc
  refine tq_itF (fun i a j => ?_) n i a jz
  simp only [f_ly1]
  (repeat' split) <;> simp (disch := first | assumption | (simp only [ne_eq] at *; simp [*])) [tq_u, tq_cp, hc0, fr_X12_touches, fr_ta1, fr_X12_touchesAll, fr_cps1, fr_X12_copies, fr_sav, fr_bg1, fr_bg2, fr_X12_begins]
def r_X12_lays (I : tq_I) (x y : Nat) (t : Int32) (w h : Nat) : Int32 := (if (I 118 (22 + 11 * y + x)) = t then (nI 0) else (nI 1))
def I_X12_lays (I : tq_I) (x y : Nat) (t : Int32) (w h : Nat) : tq_I := (if (I 118 (22 + 11 * y + x)) = t then I else (tq_it (f_ly1 x y t w h) 4 0 (tq_u I 118 ((22 + (11 * y)) + x) t)))
set_option maxRecDepth 20000 in
theorem c_X12_lays (g : tq_G) (I : tq_I) (J : Int64) (x y : Nat) (t : Int32) (w h : Nat) (hx : x ≤ 10) (hy : y ≤ 10) (k : tr_wh I w h) : CT g mX12_lays 3 0 0 [.ref 117, .int (nI x), .int (nI y), .int t] (tq_SC ++ tq_SR) tq_RR I J (tq_ret (tq_SC ++ tq_SR) tq_RR (some (.int (r_X12_lays I x y t w h))) (I_X12_lays I x y t w h) J) := by
  refine CT.ret kX12_lays (Nat.le_of_ble_eq_true rfl) (fun x0 C hR hZ => ?_)
  refine EV_en (lv' := [some (.ref 117), some (.int (nI x)), some (.int (nI y)), some (.int t), none]) 1 rfl ?_
  refine EV_blk (own := 12) C rfl [(.aload_n 0, 0, 0, 0, 0), (.iload_n 1, 0, 0, 0, 0), (.iload_n 2, 0, 0, 0, 0)] (pc' := 3) (by decide +kernel) (lv' := [some (.ref 117), some (.int (nI x)), some (.int (nI y)), some (.int t), none]) (st' := [.int (nI y), .int (nI x), .ref 117]) (I' := I) (J' := J) rfl ?_
  refine EV_cV (own := 12) (idx := 76) (μ' := mX12_cornerOf) (b := 117) (cb := 12) (av := [.int (nI x), .int (nI y)]) (rest := []) C hR rfl (Or.inl ⟨1006, by decide⟩) kX12_cornerOf sX12_cornerOf (c_X12_cornerOf g I J x y (by omega) (by omega)) rfl rfl (by decide +kernel) rfl (by decide) (Nat.le_of_ble_eq_true rfl) rfl ⟨Nat.zero_le _, Nat.zero_le _⟩ ?_
  refine EV_blk (own := 12) C rfl [(.iload_n 3, 0, 0, 0, 0)] (pc' := 7) (by decide +kernel) (lv' := [some (.ref 117), some (.int (nI x)), some (.int (nI y)), some (.int t), none]) (st' := [.int t, .int (I 118 (22 + 11 * y + x))]) (I' := I) (J' := J) rfl ?_
  refine EV_icmp_ne (off := 5) (tgt := 12) C (by decide +kernel) (by decide) (fun h1 => ?_) (fun h1 => ?_)
  · skip
    refine EV_blk (own := 12) C rfl [(.aload_n 0, 0, 0, 0, 0), (.getfield 7, 12, 0, 899, 0), (.bipush 22, 0, 0, 0, (nI 22)), (.bipush 11, 0, 0, 0, (nI 11)), (.iload_n 2, 0, 0, 0, 0), (.imul, 0, 0, 0, 0), (.iadd, 0, 0, 0, 0), (.iload_n 1, 0, 0, 0, 0), (.iadd, 0, 0, 0, 0), (.iload_n 3, 0, 0, 0, 0)] (pc' := 26) (by decide +kernel) (lv' := [some (.ref 117), some (.int (nI x)), some (.int (nI y)), some (.int t), none]) (st' := [.int t, .int (((nI 22) + ((nI 11) * (nI y))) + (nI x)), .ref 118]) (I' := I) (J' := J) rfl ?_
    refine EV_iast (j := ((22 + (11 * y)) + x)) C (by decide +kernel) rfl (tq_toI ((22 + (11 * y)) + x) (by simp (disch := omega) only [nI_add, tq_mul, tq_rem_nI, tq_div_nI, tq_sub_nI]) (by omega)) (by omega) ?_
    refine EV_blk (own := 12) C rfl [(.iconst 0, 0, 0, 0, (nI 0)), (.istore 4, 0, 0, 0, 0)] (pc' := 30) (by decide +kernel) (lv' := [some (.ref 117), some (.int (nI x)), some (.int (nI y)), some (.int t), some (.int (nI 0))]) (st' := []) (I' := (tq_u I 118 ((22 + (11 * y)) + x) t)) (J' := J) rfl ?_
    refine lp_ly1 C hR J x y t w h  4 0 (tq_u I 118 ((22 + (11 * y)) + x) t) (by omega) (k.cong (tq_u_slot (by omega)) (tq_u_slot (by omega))) ?_
    refine EV_blk (own := 12) C rfl [(.iconst 1, 0, 0, 0, (nI 1))] (pc' := 59) (by decide +kernel) (lv' := [some (.ref 117), some (.int (nI x)), some (.int (nI y)), some (.int t), some (.int (nI ((0 + 4))))]) (st' := [.int (nI 1)]) (I' := (tq_it (f_ly1 x y t w h) 4 0 (tq_u I 118 ((22 + (11 * y)) + x) t))) (J' := J) rfl ?_
    exact EV_iret C hZ rfl (by decide +kernel) (Nat.le_refl _) (Nat.le_refl _) ⟨tq_some (by simp only [r_X12_lays, if_neg h1]), rfl, rfl, by simp only [I_X12_lays, if_neg h1], rfl⟩
  · skip
    refine EV_blk (own := 12) C rfl [(.iconst 0, 0, 0, 0, (nI 0))] (pc' := 11) (by decide +kernel) (lv' := [some (.ref 117), some (.int (nI x)), some (.int (nI y)), some (.int t), none]) (st' := [.int (nI 0)]) (I' := I) (J' := J) rfl ?_
    exact EV_iret C hZ rfl (by decide +kernel) (Nat.le_refl _) (Nat.le_refl _) ⟨tq_some (by simp only [r_X12_lays, if_pos h1]), rfl, rfl, by simp only [I_X12_lays, if_pos h1], rfl⟩
theorem fr_X12_lays (I : tq_I) (x y : Nat) (t : Int32) (w h : Nat) {cz : Nat} (hc : cz ≠ 118) (jz : Nat) : I_X12_lays I x y t w h cz jz = I cz jz := by
  have hc0 := hc
  simp only [I_X12_lays]
  (repeat' split) <;> simp (disch := first | assumption | (simp only [ne_eq] at *; simp [*])) [tq_u, tq_cp, hc0, fr_X12_touches, fr_ta1, fr_X12_touchesAll, fr_cps1, fr_X12_copies, fr_sav, fr_bg1, fr_bg2, fr_X12_begins, fr_ly1]
theorem fs_ly1 {I : tq_I} {x y w h : Nat} {t : Int32} (k : tr_wh I w h) (n i : Nat) : tr_wh (tq_it (f_ly1 x y t w h) n i I) w h ∧ ∀ j, (j < 243 ∨ 343 ≤ j) → tq_it (f_ly1 x y t w h) n i I 118 j = I 118 j := by
  refine tq_itP (fun a => tr_wh a w h ∧ ∀ j, (j < 243 ∨ 343 ≤ j) → a 118 j = I 118 j) (fun i a ha => ?_) n i I ⟨k, fun _ _ => rfl⟩
  exact ⟨ha.1.touches, fun j hj => by rw [← ha.2 j hj]; exact fs_touches ha.1 hj⟩
theorem fs_lays {I : tq_I} {x y w h j : Nat} {t : Int32} (k : tr_wh I w h) (hj : j < 243 ∨ 343 ≤ j) : I_X12_lays I x y t w h 118 j = if j = 22 + 11 * y + x then t else I 118 j := by
  unfold I_X12_lays
  split
  · rename_i e
    split
    · rename_i e2; rw [e2, e]
    · rfl
  · rw [(fs_ly1 (k.cong (tq_u_slot (by omega)) (tq_u_slot (by omega))) 4 0).2 j hj]
    split
    · rename_i e2; rw [e2, tq_u_same]
    · rename_i e2; rw [tq_u_slot e2]
theorem tr_wh.lays {I : tq_I} {x y w h : Nat} {t : Int32} (k : tr_wh I w h) : tr_wh (I_X12_lays I x y t w h) w h := k.cong (by rw [fs_lays k (by decide), if_neg (by omega)]) (by rw [fs_lays k (by decide), if_neg (by omega)])
def r_X12_corner (I : tq_I) (x y : Int32) (w h s : Nat) : Int32 := (if (tq_b (tr_corner I x y)) = 0 then (-2) else (I 118 (22 + 11 * (tq_N y) + (tq_N x))))
set_option maxRecDepth 20000 in
theorem c_X12_corner (g : tq_G) (I : tq_I) (J : Int64) (x y : Int32) (w h s : Nat) (k : tr_wh I w h) (hs : I 117 1 = nI s) (hs5 : s ≤ 5)  : CT g mX12_corner 2 0 0 [.ref 117, .int x, .int y] (tq_SC ++ tq_SR) tq_RR I J (tq_ret (tq_SC ++ tq_SR) tq_RR (some (.int (r_X12_corner I x y w h s))) I J) := by
  refine CT.ret kX12_corner (Nat.le_of_ble_eq_true rfl) (fun x0 C hR hZ => ?_)
  refine EV_en (lv' := [some (.ref 117), some (.int x), some (.int y)]) 0 rfl ?_
  refine EV_blk (own := 12) C rfl [(.aload_n 0, 0, 0, 0, 0), (.iload_n 1, 0, 0, 0, 0), (.iload_n 2, 0, 0, 0, 0)] (pc' := 3) (by decide +kernel) (lv' := [some (.ref 117), some (.int x), some (.int y)]) (st' := [.int y, .int x, .ref 117]) (I' := I) (J' := J) rfl ?_
  refine EV_cV (own := 12) (idx := 87) (μ' := mX12_isCorner) (b := 117) (cb := 12) (av := [.int x, .int y]) (rest := []) C hR rfl (Or.inl ⟨1002, by decide⟩) kX12_isCorner sX12_isCorner (c_X12_isCorner g I J x y ) rfl rfl (by decide +kernel) rfl (by decide) (Nat.le_of_ble_eq_true rfl) rfl ⟨Nat.zero_le _, Nat.zero_le _⟩ ?_
  refine EV_if_eq (off := 12) (tgt := 18) C (by decide +kernel) (by decide) (fun h1 => ?_) (fun h1 => ?_)
  · skip
    refine EV_blk (own := 12) C rfl [(.bipush (-2), 0, 0, 0, (-2))] (pc' := 20) (by decide +kernel) (lv' := [some (.ref 117), some (.int x), some (.int y)]) (st' := [.int (-2)]) (I' := I) (J' := J) rfl ?_
    exact EV_iret C hZ rfl (by decide +kernel) (Nat.le_refl _) (Nat.le_refl _) ⟨tq_some (by simp only [r_X12_corner, if_pos h1]), rfl, rfl, rfl, rfl⟩
  · skip
    have hc := tq_b10 h1
    have hxy := tr_corner.ix k hc
    have hw10 := k.2.2.2.1
    have hh10 := k.2.2.2.2.2
    refine EV_lve (lv' := [some (.ref 117), some (.int (nI (tq_N x))), some (.int (nI (tq_N y)))]) (by rw [← tq_nIN hxy.1, ← tq_nIN hxy.2.1]) ?_
    refine EV_blk (own := 12) C rfl [(.aload_n 0, 0, 0, 0, 0), (.iload_n 1, 0, 0, 0, 0), (.iload_n 2, 0, 0, 0, 0)] (pc' := 12) (by decide +kernel) (lv' := [some (.ref 117), some (.int (nI (tq_N x))), some (.int (nI (tq_N y)))]) (st' := [.int (nI (tq_N y)), .int (nI (tq_N x)), .ref 117]) (I' := I) (J' := J) rfl ?_
    refine EV_cV (own := 12) (idx := 76) (μ' := mX12_cornerOf) (b := 117) (cb := 12) (av := [.int (nI (tq_N x)), .int (nI (tq_N y))]) (rest := []) C hR rfl (Or.inl ⟨1006, by decide⟩) kX12_cornerOf sX12_cornerOf (c_X12_cornerOf g I J (tq_N x) (tq_N y) (by omega) (by omega)) rfl rfl (by decide +kernel) rfl (by decide) (Nat.le_of_ble_eq_true rfl) rfl ⟨Nat.zero_le _, Nat.zero_le _⟩ ?_
    refine EV_blk (own := 12) C rfl [(.goto 5, 0, 0, 0, 0)] (pc' := 20) (by decide +kernel) (lv' := [some (.ref 117), some (.int (nI (tq_N x))), some (.int (nI (tq_N y)))]) (st' := [.int (I 118 (22 + 11 * (tq_N y) + (tq_N x)))]) (I' := I) (J' := J) rfl ?_
    exact EV_iret C hZ rfl (by decide +kernel) (Nat.le_refl _) (Nat.le_refl _) ⟨tq_some (by simp only [r_X12_corner, if_neg h1]), rfl, rfl, rfl, rfl⟩
def f_bgn1 (W H : Nat) (t : Int32) (i : Nat) (a : tq_I) : tq_I := (tq_u a 118 (22 + i) t)
set_option maxRecDepth 20000 in
theorem lp_bgn1 {g : tq_G} {x0 : tq_X} (C : tq_C g mX12_begin x0) (hR : tq_ht x0 5 0 0) (J : Int64) (W H : Nat) (t : Int32)  : ∀ (n i : Nat) (a : tq_I), i + n = 121 → EV g mX12_begin x0 0 0 70 [some (.ref 117), some (.int (nI W)), some (.int (nI H)), some (.int t), some (.int (nI (i + n)))] [] (tq_SC ++ tq_SR) tq_RR (tq_it (f_bgn1 W H t) n i a) J → EV g mX12_begin x0 0 0 46 [some (.ref 117), some (.int (nI W)), some (.int (nI H)), some (.int t), some (.int (nI i))] [] (tq_SC ++ tq_SR) tq_RR a J := by
  intro n
  induction n with
  | zero =>
    intro i a hi kk
    rw [Nat.add_zero] at kk
    refine EV_blk (own := 12) C rfl [(.iload 4, 0, 0, 0, 0), (.bipush 121, 0, 0, 0, (nI 121))] (pc' := 50) (by decide +kernel) (lv' := [some (.ref 117), some (.int (nI W)), some (.int (nI H)), some (.int t), some (.int (nI i))]) (st' := [.int (nI 121), .int (nI i)]) (I' := a) (J' := J) rfl ?_
    refine EV_icmp_ge (off := 20) (tgt := 70) C (by decide +kernel) (by decide) (fun h1 => ?_) (fun h1 => ?_)
    · skip
      exact kk
    · skip
      exact absurd h1 (by simp (disch := omega) only [Int32.lt_iff_toInt_lt, Int32.le_iff_toInt_le, Int32.toInt_zero, nI_toInt, tq_m1]; omega)
  | succ n ih =>
    intro i a hi kk
    rw [show i + (n + 1) = (i + 1) + n by omega] at kk
    refine EV_blk (own := 12) C rfl [(.iload 4, 0, 0, 0, 0), (.bipush 121, 0, 0, 0, (nI 121))] (pc' := 50) (by decide +kernel) (lv' := [some (.ref 117), some (.int (nI W)), some (.int (nI H)), some (.int t), some (.int (nI i))]) (st' := [.int (nI 121), .int (nI i)]) (I' := a) (J' := J) rfl ?_
    refine EV_icmp_ge (off := 20) (tgt := 70) C (by decide +kernel) (by decide) (fun h1 => ?_) (fun h1 => ?_)
    · skip
      exact absurd h1 (by simp (disch := omega) only [Int32.lt_iff_toInt_lt, Int32.le_iff_toInt_le, Int32.toInt_zero, nI_toInt, tq_m1]; omega)
    · skip
      refine EV_blk (own := 12) C rfl [(.aload_n 0, 0, 0, 0, 0), (.getfield 7, 12, 0, 899, 0), (.bipush 22, 0, 0, 0, (nI 22)), (.iload 4, 0, 0, 0, 0), (.iadd, 0, 0, 0, 0), (.iload_n 3, 0, 0, 0, 0)] (pc' := 63) (by decide +kernel) (lv' := [some (.ref 117), some (.int (nI W)), some (.int (nI H)), some (.int t), some (.int (nI i))]) (st' := [.int t, .int ((nI 22) + (nI i)), .ref 118]) (I' := a) (J' := J) rfl ?_
      refine EV_iast (j := (22 + i)) C (by decide +kernel) rfl (tq_toI (22 + i) (by simp (disch := omega) only [nI_add, tq_mul, tq_rem_nI, tq_div_nI, tq_sub_nI]) (by omega)) (by omega) ?_
      refine EV_blk (own := 12) C rfl [(.iinc 4 1, 0, 0, 0, (nI 1)), (.goto (-21), 0, 0, 0, 0)] (pc' := 46) (by decide +kernel) (lv' := [some (.ref 117), some (.int (nI W)), some (.int (nI H)), some (.int t), some (.int ((nI i) + (nI 1)))]) (st' := []) (I' := (tq_u a 118 (22 + i) t)) (J' := J) rfl ?_
      rw [show ((nI i) + (nI 1)) = (nI (i + 1)) from by simp (disch := omega) only [nI_add, tq_mul] <;> exact congrArg nI (by omega)]
      rw [tq_its, show (f_bgn1 W H t) i a = (tq_u a 118 (22 + i) t) from by simp only [f_bgn1, if_neg h1]] at kk
      exact ih (i + 1) (tq_u a 118 (22 + i) t) (by omega) kk
theorem fr_bgn1 (W H : Nat) (t : Int32) {cz : Nat} (hc : cz ≠ 118) (n i : Nat) (a : tq_I) (jz : Nat) : (tq_it (f_bgn1 W H t) n i a) cz jz = a cz jz := by
  have hc0 := hc
  refine tq_itF (fun i a j => ?_) n i a jz
  simp only [f_bgn1]
  (repeat' split) <;> simp (disch := first | assumption | (simp only [ne_eq] at *; simp [*])) [tq_u, tq_cp, hc0, fr_X12_touches, fr_ta1, fr_X12_touchesAll, fr_cps1, fr_X12_copies, fr_sav, fr_bg1, fr_bg2, fr_X12_begins, fr_ly1, fr_X12_lays]
def r_X12_begin (I : tq_I) (W H t : Int32) (w h s : Nat) : Int32 := (if (tq_b ((nI 0).toInt ≤ t.toInt ∧ t.toInt ≤ (nI 5).toInt)) = 0 then (-2) else (if (tq_b ((nI 1).toInt ≤ W.toInt ∧ W.toInt ≤ (nI 10).toInt)) = 0 then (-3) else (if (tq_b ((nI 1).toInt ≤ H.toInt ∧ H.toInt ≤ (nI 10).toInt)) = 0 then (-3) else ((nI (tq_N W)) * (nI (tq_N H))))))
def I_X12_begin (I : tq_I) (W H t : Int32) (w h s : Nat) : tq_I := (if (tq_b ((nI 0).toInt ≤ t.toInt ∧ t.toInt ≤ (nI 5).toInt)) = 0 then I else (if (tq_b ((nI 1).toInt ≤ W.toInt ∧ W.toInt ≤ (nI 10).toInt)) = 0 then I else (if (tq_b ((nI 1).toInt ≤ H.toInt ∧ H.toInt ≤ (nI 10).toInt)) = 0 then I else (tq_it (f_bgn1 (tq_N W) (tq_N H) t) 121 0 (I_X12_begins (tr_sav I s) (tq_N W) (tq_N H))))))
set_option maxRecDepth 20000 in
theorem c_X12_begin (g : tq_G) (I : tq_I) (J : Int64) (W H t : Int32) (w h s : Nat) (k : tr_wh I w h) (hs : I 117 1 = nI s) (hs5 : s ≤ 5)  : CT g mX12_begin 5 0 0 [.ref 117, .int W, .int H, .int t] (tq_SC ++ tq_SR) tq_RR I J (tq_ret (tq_SC ++ tq_SR) tq_RR (some (.int (r_X12_begin I W H t w h s))) (I_X12_begin I W H t w h s) J) := by
  refine CT.ret kX12_begin (Nat.le_of_ble_eq_true rfl) (fun x0 C hR hZ => ?_)
  refine EV_en (lv' := [some (.ref 117), some (.int W), some (.int H), some (.int t), none]) 1 rfl ?_
  refine EV_blk (own := 12) C rfl [(.iload_n 3, 0, 0, 0, 0)] (pc' := 1) (by decide +kernel) (lv' := [some (.ref 117), some (.int W), some (.int H), some (.int t), none]) (st' := [.int t]) (I' := I) (J' := J) rfl ?_
  refine EV_cS (own := 12) (idx := 80) (μ' := mX12_isTerrain) (av := [.int t]) (rest := []) C hR rfl (Or.inl ⟨983, by decide⟩) kX12_isTerrain sX12_isTerrain (c_X12_isTerrain g I J t ) (by decide +kernel) rfl (by decide) (Nat.le_of_ble_eq_true rfl) rfl ⟨Nat.zero_le _, Nat.zero_le _⟩ ?_
  refine EV_if_ne (off := 6) (tgt := 10) C (by decide +kernel) (by decide) (fun h1 => ?_) (fun h1 => ?_)
  · skip
    have ht := tq_t05 (tq_b10 h1)
    refine EV_blk (own := 12) C rfl [(.iload_n 1, 0, 0, 0, 0), (.iconst 1, 0, 0, 0, (nI 1)), (.bipush 10, 0, 0, 0, (nI 10))] (pc' := 14) (by decide +kernel) (lv' := [some (.ref 117), some (.int W), some (.int H), some (.int t), none]) (st' := [.int (nI 10), .int (nI 1), .int W]) (I' := I) (J' := J) rfl ?_
    refine EV_cS (own := 12) (idx := 62) (μ' := mX12_in) (av := [.int W, .int (nI 1), .int (nI 10)]) (rest := []) C hR rfl (Or.inl ⟨896, by decide⟩) kX12_in sX12_in (c_X12_in g I J W (nI 1) (nI 10) ) (by decide +kernel) rfl (by decide) (Nat.le_of_ble_eq_true rfl) rfl ⟨Nat.zero_le _, Nat.zero_le _⟩ ?_
    refine EV_if_eq (off := 13) (tgt := 30) C (by decide +kernel) (by decide) (fun h2 => ?_) (fun h2 => ?_)
    · skip
      refine EV_blk (own := 12) C rfl [(.bipush (-3), 0, 0, 0, (-3))] (pc' := 32) (by decide +kernel) (lv' := [some (.ref 117), some (.int W), some (.int H), some (.int t), none]) (st' := [.int (-3)]) (I' := I) (J' := J) rfl ?_
      exact EV_iret C hZ rfl (by decide +kernel) (Nat.le_refl _) (Nat.le_refl _) ⟨tq_some (by simp only [r_X12_begin, if_neg h1, if_pos h2]), rfl, rfl, by simp only [I_X12_begin, if_neg h1, if_pos h2], rfl⟩
    · skip
      have hW := tq_w10 (tq_b10 h2)
      refine EV_blk (own := 12) C rfl [(.iload_n 2, 0, 0, 0, 0), (.iconst 1, 0, 0, 0, (nI 1)), (.bipush 10, 0, 0, 0, (nI 10))] (pc' := 24) (by decide +kernel) (lv' := [some (.ref 117), some (.int W), some (.int H), some (.int t), none]) (st' := [.int (nI 10), .int (nI 1), .int H]) (I' := I) (J' := J) rfl ?_
      refine EV_cS (own := 12) (idx := 62) (μ' := mX12_in) (av := [.int H, .int (nI 1), .int (nI 10)]) (rest := []) C hR rfl (Or.inl ⟨896, by decide⟩) kX12_in sX12_in (c_X12_in g I J H (nI 1) (nI 10) ) (by decide +kernel) rfl (by decide) (Nat.le_of_ble_eq_true rfl) rfl ⟨Nat.zero_le _, Nat.zero_le _⟩ ?_
      refine EV_if_ne (off := 6) (tgt := 33) C (by decide +kernel) (by decide) (fun h3 => ?_) (fun h3 => ?_)
      · skip
        have hH := tq_w10 (tq_b10 h3)
        refine EV_lve (lv' := [some (.ref 117), some (.int (nI (tq_N W))), some (.int (nI (tq_N H))), some (.int t), none]) (by rw [← tq_nIN hW.1, ← tq_nIN hH.1]) ?_
        refine EV_blk (own := 12) C rfl [(.aload_n 0, 0, 0, 0, 0)] (pc' := 34) (by decide +kernel) (lv' := [some (.ref 117), some (.int (nI (tq_N W))), some (.int (nI (tq_N H))), some (.int t), none]) (st' := [.ref 117]) (I' := I) (J' := J) rfl ?_
        refine EV_cV (own := 12) (idx := 84) (μ' := mX12_saves) (b := 117) (cb := 12) (av := []) (rest := []) C hR rfl (Or.inl ⟨986, by decide⟩) kX12_saves sX12_saves (c_saves g I J s hs hs5) rfl rfl (by decide +kernel) rfl (by decide) (Nat.le_of_ble_eq_true rfl) rfl ⟨Nat.zero_le _, Nat.zero_le _⟩ ?_
        refine EV_blk (own := 12) C rfl [(.aload_n 0, 0, 0, 0, 0), (.iload_n 1, 0, 0, 0, 0), (.iload_n 2, 0, 0, 0, 0)] (pc' := 40) (by decide +kernel) (lv' := [some (.ref 117), some (.int (nI (tq_N W))), some (.int (nI (tq_N H))), some (.int t), none]) (st' := [.int (nI (tq_N H)), .int (nI (tq_N W)), .ref 117]) (I' := (tr_sav I s)) (J' := J) rfl ?_
        refine EV_cV (own := 12) (idx := 51) (μ' := mX12_begins) (b := 117) (cb := 12) (av := [.int (nI (tq_N W)), .int (nI (tq_N H))]) (rest := []) C hR rfl (Or.inl ⟨880, by decide⟩) kX12_begins sX12_begins (c_X12_begins g (tr_sav I s) J (tq_N W) (tq_N H) (by omega) (by omega)) rfl rfl (by decide +kernel) rfl (by decide) (Nat.le_of_ble_eq_true rfl) rfl ⟨Nat.zero_le _, Nat.zero_le _⟩ ?_
        refine EV_blk (own := 12) C rfl [(.iconst 0, 0, 0, 0, (nI 0)), (.istore 4, 0, 0, 0, 0)] (pc' := 46) (by decide +kernel) (lv' := [some (.ref 117), some (.int (nI (tq_N W))), some (.int (nI (tq_N H))), some (.int t), some (.int (nI 0))]) (st' := []) (I' := (I_X12_begins (tr_sav I s) (tq_N W) (tq_N H))) (J' := J) rfl ?_
        refine lp_bgn1 C hR J (tq_N W) (tq_N H) t  121 0 (I_X12_begins (tr_sav I s) (tq_N W) (tq_N H)) (by omega) ?_
        refine EV_blk (own := 12) C rfl [(.iload_n 1, 0, 0, 0, 0), (.iload_n 2, 0, 0, 0, 0), (.imul, 0, 0, 0, 0)] (pc' := 73) (by decide +kernel) (lv' := [some (.ref 117), some (.int (nI (tq_N W))), some (.int (nI (tq_N H))), some (.int t), some (.int (nI ((0 + 121))))]) (st' := [.int ((nI (tq_N W)) * (nI (tq_N H)))]) (I' := (tq_it (f_bgn1 (tq_N W) (tq_N H) t) 121 0 (I_X12_begins (tr_sav I s) (tq_N W) (tq_N H)))) (J' := J) rfl ?_
        exact EV_iret C hZ rfl (by decide +kernel) (Nat.le_refl _) (Nat.le_refl _) ⟨tq_some (by simp only [r_X12_begin, if_neg h1, if_neg h2, if_neg h3]), rfl, rfl, by simp only [I_X12_begin, if_neg h1, if_neg h2, if_neg h3], rfl⟩
      · skip
        refine EV_blk (own := 12) C rfl [(.bipush (-3), 0, 0, 0, (-3))] (pc' := 32) (by decide +kernel) (lv' := [some (.ref 117), some (.int W), some (.int H), some (.int t), none]) (st' := [.int (-3)]) (I' := I) (J' := J) rfl ?_
        exact EV_iret C hZ rfl (by decide +kernel) (Nat.le_refl _) (Nat.le_refl _) ⟨tq_some (by simp only [r_X12_begin, if_neg h1, if_neg h2, if_pos h3]), rfl, rfl, by simp only [I_X12_begin, if_neg h1, if_neg h2, if_pos h3], rfl⟩
  · skip
    refine EV_blk (own := 12) C rfl [(.bipush (-2), 0, 0, 0, (-2))] (pc' := 9) (by decide +kernel) (lv' := [some (.ref 117), some (.int W), some (.int H), some (.int t), none]) (st' := [.int (-2)]) (I' := I) (J' := J) rfl ?_
    exact EV_iret C hZ rfl (by decide +kernel) (Nat.le_refl _) (Nat.le_refl _) ⟨tq_some (by simp only [r_X12_begin, if_pos h1]), rfl, rfl, by simp only [I_X12_begin, if_pos h1], rfl⟩
theorem fr_X12_begin (I : tq_I) (W H t : Int32) (w h s : Nat) {cz : Nat} (hc : cz ≠ 117 ∧ cz ≠ 118) (jz : Nat) : I_X12_begin I W H t w h s cz jz = I cz jz := by
  obtain ⟨hc0, hc1⟩ := hc
  simp only [I_X12_begin]
  (repeat' split) <;> simp (disch := first | assumption | (simp only [ne_eq] at *; simp [*])) [tq_u, tq_cp, hc0, hc1, fr_X12_touches, fr_ta1, fr_X12_touchesAll, fr_cps1, fr_X12_copies, fr_sav, fr_bg1, fr_bg2, fr_X12_begins, fr_ly1, fr_X12_lays, fr_bgn1]
def f_sz1 (I : tq_I) (q : Int32) (i : Nat) (a : Int32) : Int32 := (a + (I 118 (143 + i)))
set_option maxRecDepth 20000 in
theorem lp_sz1 {g : tq_G} {x0 : tq_X} (C : tq_C g mX12_size x0) (hR : tq_ht x0 0 0 0) (I : tq_I) (J : Int64) (q : Int32)  : ∀ (n i : Nat) (a : Int32), i + n = 100 → EV g mX12_size x0 0 0 29 [some (.ref 117), some (.int q), some (.int (tq_it (f_sz1 I q) n i a)), some (.int (nI (i + n)))] [] (tq_SC ++ tq_SR) tq_RR I J → EV g mX12_size x0 0 0 4 [some (.ref 117), some (.int q), some (.int a), some (.int (nI i))] [] (tq_SC ++ tq_SR) tq_RR I J := by
  intro n
  induction n with
  | zero =>
    intro i a hi kk
    rw [Nat.add_zero] at kk
    refine EV_blk (own := 12) C rfl [(.iload_n 3, 0, 0, 0, 0), (.bipush 100, 0, 0, 0, (nI 100))] (pc' := 7) (by decide +kernel) (lv' := [some (.ref 117), some (.int q), some (.int a), some (.int (nI i))]) (st' := [.int (nI 100), .int (nI i)]) (I' := I) (J' := J) rfl ?_
    refine EV_icmp_ge (off := 22) (tgt := 29) C (by decide +kernel) (by decide) (fun h1 => ?_) (fun h1 => ?_)
    · skip
      exact kk
    · skip
      exact absurd h1 (by simp (disch := omega) only [Int32.lt_iff_toInt_lt, Int32.le_iff_toInt_le, Int32.toInt_zero, nI_toInt, tq_m1]; omega)
  | succ n ih =>
    intro i a hi kk
    rw [show i + (n + 1) = (i + 1) + n by omega] at kk
    refine EV_blk (own := 12) C rfl [(.iload_n 3, 0, 0, 0, 0), (.bipush 100, 0, 0, 0, (nI 100))] (pc' := 7) (by decide +kernel) (lv' := [some (.ref 117), some (.int q), some (.int a), some (.int (nI i))]) (st' := [.int (nI 100), .int (nI i)]) (I' := I) (J' := J) rfl ?_
    refine EV_icmp_ge (off := 22) (tgt := 29) C (by decide +kernel) (by decide) (fun h1 => ?_) (fun h1 => ?_)
    · skip
      exact absurd h1 (by simp (disch := omega) only [Int32.lt_iff_toInt_lt, Int32.le_iff_toInt_le, Int32.toInt_zero, nI_toInt, tq_m1]; omega)
    · skip
      refine EV_blk (own := 12) C rfl [(.iload_n 2, 0, 0, 0, 0), (.aload_n 0, 0, 0, 0, 0), (.getfield 7, 12, 0, 899, 0), (.sipush 143, 0, 0, 0, (nI 143)), (.iload_n 3, 0, 0, 0, 0), (.iadd, 0, 0, 0, 0)] (pc' := 20) (by decide +kernel) (lv' := [some (.ref 117), some (.int q), some (.int a), some (.int (nI i))]) (st' := [.int ((nI 143) + (nI i)), .ref 118, .int a]) (I' := I) (J' := J) rfl ?_
      refine EV_iald (j := (143 + i)) C (by decide +kernel) rfl (tq_toI (143 + i) (by simp (disch := omega) only [nI_add, tq_mul, tq_rem_nI, tq_div_nI, tq_sub_nI]) (by omega)) (by omega) ?_
      refine EV_blk (own := 12) C rfl [(.iadd, 0, 0, 0, 0), (.istore_n 2, 0, 0, 0, 0), (.iinc 3 1, 0, 0, 0, (nI 1)), (.goto (-22), 0, 0, 0, 0)] (pc' := 4) (by decide +kernel) (lv' := [some (.ref 117), some (.int q), some (.int (a + (I 118 (143 + i)))), some (.int ((nI i) + (nI 1)))]) (st' := []) (I' := I) (J' := J) rfl ?_
      rw [show ((nI i) + (nI 1)) = (nI (i + 1)) from by simp (disch := omega) only [nI_add, tq_mul] <;> exact congrArg nI (by omega)]
      rw [tq_its, show (f_sz1 I q) i a = (a + (I 118 (143 + i))) from by simp only [f_sz1, if_neg h1]] at kk
      exact ih (i + 1) (a + (I 118 (143 + i))) (by omega) kk
def r_X12_size (I : tq_I) (q : Int32) (w h s : Nat) : Int32 := (if q = 0 then (I 118 0) else (if q = (nI 1) then (I 118 1) else (if q = (nI 2) then (tq_it (f_sz1 I q) 100 0 (nI 0)) else (-3))))
set_option maxRecDepth 20000 in
theorem c_X12_size (g : tq_G) (I : tq_I) (J : Int64) (q : Int32) (w h s : Nat) (k : tr_wh I w h) (hs : I 117 1 = nI s) (hs5 : s ≤ 5)  : CT g mX12_size 0 0 0 [.ref 117, .int q] (tq_SC ++ tq_SR) tq_RR I J (tq_ret (tq_SC ++ tq_SR) tq_RR (some (.int (r_X12_size I q w h s))) I J) := by
  refine CT.ret kX12_size (Nat.le_of_ble_eq_true rfl) (fun x0 C hR hZ => ?_)
  refine EV_en (lv' := [some (.ref 117), some (.int q), none, none]) 2 rfl ?_
  refine EV_blk (own := 12) C rfl [(.iconst 0, 0, 0, 0, (nI 0)), (.istore_n 2, 0, 0, 0, 0), (.iconst 0, 0, 0, 0, (nI 0)), (.istore_n 3, 0, 0, 0, 0)] (pc' := 4) (by decide +kernel) (lv' := [some (.ref 117), some (.int q), some (.int (nI 0)), some (.int (nI 0))]) (st' := []) (I' := I) (J' := J) rfl ?_
  refine lp_sz1 C hR I J q  100 0 (nI 0) (by omega) ?_
  refine EV_blk (own := 12) C rfl [(.iload_n 1, 0, 0, 0, 0)] (pc' := 30) (by decide +kernel) (lv' := [some (.ref 117), some (.int q), some (.int (tq_it (f_sz1 I q) 100 0 (nI 0))), some (.int (nI ((0 + 100))))]) (st' := [.int q]) (I' := I) (J' := J) rfl ?_
  refine EV_if_ne (off := 12) (tgt := 42) C (by decide +kernel) (by decide) (fun h1 => ?_) (fun h1 => ?_)
  · skip
    refine EV_blk (own := 12) C rfl [(.iload_n 1, 0, 0, 0, 0), (.iconst 1, 0, 0, 0, (nI 1))] (pc' := 44) (by decide +kernel) (lv' := [some (.ref 117), some (.int q), some (.int (tq_it (f_sz1 I q) 100 0 (nI 0))), some (.int (nI ((0 + 100))))]) (st' := [.int (nI 1), .int q]) (I' := I) (J' := J) rfl ?_
    refine EV_icmp_ne (off := 12) (tgt := 56) C (by decide +kernel) (by decide) (fun h2 => ?_) (fun h2 => ?_)
    · skip
      refine EV_blk (own := 12) C rfl [(.iload_n 1, 0, 0, 0, 0), (.iconst 2, 0, 0, 0, (nI 2))] (pc' := 58) (by decide +kernel) (lv' := [some (.ref 117), some (.int q), some (.int (tq_it (f_sz1 I q) 100 0 (nI 0))), some (.int (nI ((0 + 100))))]) (st' := [.int (nI 2), .int q]) (I' := I) (J' := J) rfl ?_
      refine EV_icmp_ne (off := 7) (tgt := 65) C (by decide +kernel) (by decide) (fun h3 => ?_) (fun h3 => ?_)
      · skip
        refine EV_blk (own := 12) C rfl [(.bipush (-3), 0, 0, 0, (-3))] (pc' := 67) (by decide +kernel) (lv' := [some (.ref 117), some (.int q), some (.int (tq_it (f_sz1 I q) 100 0 (nI 0))), some (.int (nI ((0 + 100))))]) (st' := [.int (-3)]) (I' := I) (J' := J) rfl ?_
        exact EV_iret C hZ rfl (by decide +kernel) (Nat.le_refl _) (Nat.le_refl _) ⟨tq_some (by simp only [r_X12_size, if_neg h1, if_neg h2, if_neg h3]), rfl, rfl, rfl, rfl⟩
      · skip
        refine EV_blk (own := 12) C rfl [(.iload_n 2, 0, 0, 0, 0), (.goto 5, 0, 0, 0, 0)] (pc' := 67) (by decide +kernel) (lv' := [some (.ref 117), some (.int q), some (.int (tq_it (f_sz1 I q) 100 0 (nI 0))), some (.int (nI ((0 + 100))))]) (st' := [.int (tq_it (f_sz1 I q) 100 0 (nI 0))]) (I' := I) (J' := J) rfl ?_
        exact EV_iret C hZ rfl (by decide +kernel) (Nat.le_refl _) (Nat.le_refl _) ⟨tq_some (by simp only [r_X12_size, if_neg h1, if_neg h2, if_pos h3]), rfl, rfl, rfl, rfl⟩
    · skip
      refine EV_blk (own := 12) C rfl [(.aload_n 0, 0, 0, 0, 0), (.getfield 7, 12, 0, 899, 0), (.iconst 1, 0, 0, 0, (nI 1))] (pc' := 52) (by decide +kernel) (lv' := [some (.ref 117), some (.int q), some (.int (tq_it (f_sz1 I q) 100 0 (nI 0))), some (.int (nI ((0 + 100))))]) (st' := [.int (nI 1), .ref 118]) (I' := I) (J' := J) rfl ?_
      refine EV_iald (j := 1) C (by decide +kernel) rfl (nI_toInt (by omega)) (by omega) ?_
      refine EV_blk (own := 12) C rfl [(.goto 14, 0, 0, 0, 0)] (pc' := 67) (by decide +kernel) (lv' := [some (.ref 117), some (.int q), some (.int (tq_it (f_sz1 I q) 100 0 (nI 0))), some (.int (nI ((0 + 100))))]) (st' := [.int (I 118 1)]) (I' := I) (J' := J) rfl ?_
      exact EV_iret C hZ rfl (by decide +kernel) (Nat.le_refl _) (Nat.le_refl _) ⟨tq_some (by simp only [r_X12_size, if_neg h1, if_pos h2]), rfl, rfl, rfl, rfl⟩
  · skip
    refine EV_blk (own := 12) C rfl [(.aload_n 0, 0, 0, 0, 0), (.getfield 7, 12, 0, 899, 0), (.iconst 0, 0, 0, 0, (nI 0))] (pc' := 38) (by decide +kernel) (lv' := [some (.ref 117), some (.int q), some (.int (tq_it (f_sz1 I q) 100 0 (nI 0))), some (.int (nI ((0 + 100))))]) (st' := [.int (nI 0), .ref 118]) (I' := I) (J' := J) rfl ?_
    refine EV_iald (j := 0) C (by decide +kernel) rfl (nI_toInt (by omega)) (by omega) ?_
    refine EV_blk (own := 12) C rfl [(.goto 28, 0, 0, 0, 0)] (pc' := 67) (by decide +kernel) (lv' := [some (.ref 117), some (.int q), some (.int (tq_it (f_sz1 I q) 100 0 (nI 0))), some (.int (nI ((0 + 100))))]) (st' := [.int (I 118 0)]) (I' := I) (J' := J) rfl ?_
    exact EV_iret C hZ rfl (by decide +kernel) (Nat.le_refl _) (Nat.le_refl _) ⟨tq_some (by simp only [r_X12_size, if_pos h1]), rfl, rfl, rfl, rfl⟩
def r_X12_setCorner (I : tq_I) (x y t : Int32) (w h s : Nat) : Int32 := (if (tq_b (tr_corner I x y)) = 0 then (-2) else (if (tq_b ((nI 0).toInt ≤ t.toInt ∧ t.toInt ≤ (nI 5).toInt)) = 0 then (-2) else ((tr_sav I s) 118 (22 + 11 * (tq_N y) + (tq_N x)))))
def I_X12_setCorner (I : tq_I) (x y t : Int32) (w h s : Nat) : tq_I := (if (tq_b (tr_corner I x y)) = 0 then I else (if (tq_b ((nI 0).toInt ≤ t.toInt ∧ t.toInt ≤ (nI 5).toInt)) = 0 then I else (I_X12_lays (tr_sav I s) (tq_N x) (tq_N y) t w h)))
set_option maxRecDepth 20000 in
theorem c_X12_setCorner (g : tq_G) (I : tq_I) (J : Int64) (x y t : Int32) (w h s : Nat) (k : tr_wh I w h) (hs : I 117 1 = nI s) (hs5 : s ≤ 5)  : CT g mX12_setCorner 4 0 0 [.ref 117, .int x, .int y, .int t] (tq_SC ++ tq_SR) tq_RR I J (tq_ret (tq_SC ++ tq_SR) tq_RR (some (.int (r_X12_setCorner I x y t w h s))) (I_X12_setCorner I x y t w h s) J) := by
  refine CT.ret kX12_setCorner (Nat.le_of_ble_eq_true rfl) (fun x0 C hR hZ => ?_)
  refine EV_en (lv' := [some (.ref 117), some (.int x), some (.int y), some (.int t), none, none]) 2 rfl ?_
  refine EV_blk (own := 12) C rfl [(.aload_n 0, 0, 0, 0, 0), (.iload_n 1, 0, 0, 0, 0), (.iload_n 2, 0, 0, 0, 0)] (pc' := 3) (by decide +kernel) (lv' := [some (.ref 117), some (.int x), some (.int y), some (.int t), none, none]) (st' := [.int y, .int x, .ref 117]) (I' := I) (J' := J) rfl ?_
  refine EV_cV (own := 12) (idx := 87) (μ' := mX12_isCorner) (b := 117) (cb := 12) (av := [.int x, .int y]) (rest := []) C hR rfl (Or.inl ⟨1002, by decide⟩) kX12_isCorner sX12_isCorner (c_X12_isCorner g I J x y ) rfl rfl (by decide +kernel) rfl (by decide) (Nat.le_of_ble_eq_true rfl) rfl ⟨Nat.zero_le _, Nat.zero_le _⟩ ?_
  refine EV_if_eq (off := 10) (tgt := 16) C (by decide +kernel) (by decide) (fun h1 => ?_) (fun h1 => ?_)
  · skip
    refine EV_blk (own := 12) C rfl [(.bipush (-2), 0, 0, 0, (-2))] (pc' := 18) (by decide +kernel) (lv' := [some (.ref 117), some (.int x), some (.int y), some (.int t), none, none]) (st' := [.int (-2)]) (I' := I) (J' := J) rfl ?_
    exact EV_iret C hZ rfl (by decide +kernel) (Nat.le_refl _) (Nat.le_refl _) ⟨tq_some (by simp only [r_X12_setCorner, if_pos h1]), rfl, rfl, by simp only [I_X12_setCorner, if_pos h1], rfl⟩
  · skip
    have hc := tq_b10 h1
    have hxy := tr_corner.ix k hc
    have hw10 := k.2.2.2.1
    have hh10 := k.2.2.2.2.2
    refine EV_blk (own := 12) C rfl [(.iload_n 3, 0, 0, 0, 0)] (pc' := 10) (by decide +kernel) (lv' := [some (.ref 117), some (.int x), some (.int y), some (.int t), none, none]) (st' := [.int t]) (I' := I) (J' := J) rfl ?_
    refine EV_cS (own := 12) (idx := 80) (μ' := mX12_isTerrain) (av := [.int t]) (rest := []) C hR rfl (Or.inl ⟨983, by decide⟩) kX12_isTerrain sX12_isTerrain (c_X12_isTerrain g I J t ) (by decide +kernel) rfl (by decide) (Nat.le_of_ble_eq_true rfl) rfl ⟨Nat.zero_le _, Nat.zero_le _⟩ ?_
    refine EV_if_ne (off := 6) (tgt := 19) C (by decide +kernel) (by decide) (fun h2 => ?_) (fun h2 => ?_)
    · skip
      have ht := tq_t05 (tq_b10 h2)
      refine EV_lve (lv' := [some (.ref 117), some (.int (nI (tq_N x))), some (.int (nI (tq_N y))), some (.int t), none, none]) (by rw [← tq_nIN hxy.1, ← tq_nIN hxy.2.1]) ?_
      refine EV_blk (own := 12) C rfl [(.aload_n 0, 0, 0, 0, 0)] (pc' := 20) (by decide +kernel) (lv' := [some (.ref 117), some (.int (nI (tq_N x))), some (.int (nI (tq_N y))), some (.int t), none, none]) (st' := [.ref 117]) (I' := I) (J' := J) rfl ?_
      refine EV_cV (own := 12) (idx := 84) (μ' := mX12_saves) (b := 117) (cb := 12) (av := []) (rest := []) C hR rfl (Or.inl ⟨986, by decide⟩) kX12_saves sX12_saves (c_saves g I J s hs hs5) rfl rfl (by decide +kernel) rfl (by decide) (Nat.le_of_ble_eq_true rfl) rfl ⟨Nat.zero_le _, Nat.zero_le _⟩ ?_
      refine EV_blk (own := 12) C rfl [(.aload_n 0, 0, 0, 0, 0), (.iload_n 1, 0, 0, 0, 0), (.iload_n 2, 0, 0, 0, 0)] (pc' := 26) (by decide +kernel) (lv' := [some (.ref 117), some (.int (nI (tq_N x))), some (.int (nI (tq_N y))), some (.int t), none, none]) (st' := [.int (nI (tq_N y)), .int (nI (tq_N x)), .ref 117]) (I' := (tr_sav I s)) (J' := J) rfl ?_
      refine EV_cV (own := 12) (idx := 76) (μ' := mX12_cornerOf) (b := 117) (cb := 12) (av := [.int (nI (tq_N x)), .int (nI (tq_N y))]) (rest := []) C hR rfl (Or.inl ⟨1006, by decide⟩) kX12_cornerOf sX12_cornerOf (c_X12_cornerOf g (tr_sav I s) J (tq_N x) (tq_N y) (by omega) (by omega)) rfl rfl (by decide +kernel) rfl (by decide) (Nat.le_of_ble_eq_true rfl) rfl ⟨Nat.zero_le _, Nat.zero_le _⟩ ?_
      refine EV_blk (own := 12) C rfl [(.istore 4, 0, 0, 0, 0), (.aload_n 0, 0, 0, 0, 0), (.iload_n 1, 0, 0, 0, 0), (.iload_n 2, 0, 0, 0, 0), (.iload_n 3, 0, 0, 0, 0)] (pc' := 35) (by decide +kernel) (lv' := [some (.ref 117), some (.int (nI (tq_N x))), some (.int (nI (tq_N y))), some (.int t), some (.int ((tr_sav I s) 118 (22 + 11 * (tq_N y) + (tq_N x)))), none]) (st' := [.int t, .int (nI (tq_N y)), .int (nI (tq_N x)), .ref 117]) (I' := (tr_sav I s)) (J' := J) rfl ?_
      refine EV_cV (own := 12) (idx := 90) (μ' := mX12_lays) (b := 117) (cb := 12) (av := [.int (nI (tq_N x)), .int (nI (tq_N y)), .int t]) (rest := []) C hR rfl (Or.inl ⟨1010, by decide⟩) kX12_lays sX12_lays (c_X12_lays g (tr_sav I s) J (tq_N x) (tq_N y) t w h (by omega) (by omega) k.sav) rfl rfl (by decide +kernel) rfl (by decide) (Nat.le_of_ble_eq_true rfl) rfl ⟨Nat.zero_le _, Nat.zero_le _⟩ ?_
      refine EV_blk (own := 12) C rfl [(.istore 5, 0, 0, 0, 0), (.iload 4, 0, 0, 0, 0)] (pc' := 42) (by decide +kernel) (lv' := [some (.ref 117), some (.int (nI (tq_N x))), some (.int (nI (tq_N y))), some (.int t), some (.int ((tr_sav I s) 118 (22 + 11 * (tq_N y) + (tq_N x)))), some (.int (r_X12_lays (tr_sav I s) (tq_N x) (tq_N y) t w h))]) (st' := [.int ((tr_sav I s) 118 (22 + 11 * (tq_N y) + (tq_N x)))]) (I' := (I_X12_lays (tr_sav I s) (tq_N x) (tq_N y) t w h)) (J' := J) rfl ?_
      exact EV_iret C hZ rfl (by decide +kernel) (Nat.le_refl _) (Nat.le_refl _) ⟨tq_some (by simp only [r_X12_setCorner, if_neg h1, if_neg h2]), rfl, rfl, by simp only [I_X12_setCorner, if_neg h1, if_neg h2], rfl⟩
    · skip
      refine EV_blk (own := 12) C rfl [(.bipush (-2), 0, 0, 0, (-2))] (pc' := 18) (by decide +kernel) (lv' := [some (.ref 117), some (.int x), some (.int y), some (.int t), none, none]) (st' := [.int (-2)]) (I' := I) (J' := J) rfl ?_
      exact EV_iret C hZ rfl (by decide +kernel) (Nat.le_refl _) (Nat.le_refl _) ⟨tq_some (by simp only [r_X12_setCorner, if_neg h1, if_pos h2]), rfl, rfl, by simp only [I_X12_setCorner, if_neg h1, if_pos h2], rfl⟩
theorem fr_X12_setCorner (I : tq_I) (x y t : Int32) (w h s : Nat) {cz : Nat} (hc : cz ≠ 117 ∧ cz ≠ 118) (jz : Nat) : I_X12_setCorner I x y t w h s cz jz = I cz jz := by
  obtain ⟨hc0, hc1⟩ := hc
  simp only [I_X12_setCorner]
  (repeat' split) <;> simp (disch := first | assumption | (simp only [ne_eq] at *; simp [*])) [tq_u, tq_cp, hc0, hc1, fr_X12_touches, fr_ta1, fr_X12_touchesAll, fr_cps1, fr_X12_copies, fr_sav, fr_bg1, fr_bg2, fr_X12_begins, fr_ly1, fr_X12_lays, fr_bgn1, fr_X12_begin]
def f_fi1 (x y u v : Nat) (t : Int32) (w h : Nat) (i : Nat) (a : Int32 × tq_I) : Int32 × tq_I := (if (nI u) ≤ (nI x) then (if (tq_b ((nI u).toInt ≤ (nI (i % 11)).toInt ∧ (nI (i % 11)).toInt ≤ (nI x).toInt)) = 0 then ((a.1 + (nI 0)), a.2) else (if (nI v) ≤ (nI y) then (if (tq_b ((nI v).toInt ≤ (nI (i / 11)).toInt ∧ (nI (i / 11)).toInt ≤ (nI y).toInt)) = 0 then ((a.1 + (nI 0)), a.2) else ((a.1 + (r_X12_lays a.2 (i % 11) (i / 11) t w h)), (I_X12_lays a.2 (i % 11) (i / 11) t w h))) else (if (tq_b ((nI y).toInt ≤ (nI (i / 11)).toInt ∧ (nI (i / 11)).toInt ≤ (nI v).toInt)) = 0 then ((a.1 + (nI 0)), a.2) else ((a.1 + (r_X12_lays a.2 (i % 11) (i / 11) t w h)), (I_X12_lays a.2 (i % 11) (i / 11) t w h))))) else (if (tq_b ((nI x).toInt ≤ (nI (i % 11)).toInt ∧ (nI (i % 11)).toInt ≤ (nI u).toInt)) = 0 then ((a.1 + (nI 0)), a.2) else (if (nI v) ≤ (nI y) then (if (tq_b ((nI v).toInt ≤ (nI (i / 11)).toInt ∧ (nI (i / 11)).toInt ≤ (nI y).toInt)) = 0 then ((a.1 + (nI 0)), a.2) else ((a.1 + (r_X12_lays a.2 (i % 11) (i / 11) t w h)), (I_X12_lays a.2 (i % 11) (i / 11) t w h))) else (if (tq_b ((nI y).toInt ≤ (nI (i / 11)).toInt ∧ (nI (i / 11)).toInt ≤ (nI v).toInt)) = 0 then ((a.1 + (nI 0)), a.2) else ((a.1 + (r_X12_lays a.2 (i % 11) (i / 11) t w h)), (I_X12_lays a.2 (i % 11) (i / 11) t w h))))))
set_option maxRecDepth 20000 in
theorem lp_fi1 {g : tq_G} {x0 : tq_X} (C : tq_C g mX12_fill x0) (hR : tq_ht x0 4 0 0) (J : Int64) (x y u v : Nat) (t : Int32) (w h : Nat)  : ∀ (n i : Nat) (a : Int32 × tq_I), i + n = 121 → tr_wh a.2 w h → EV g mX12_fill x0 0 0 158 [some (.ref 117), some (.int (nI x)), some (.int (nI y)), some (.int (nI u)), some (.int (nI v)), some (.int t), some (.int ((tq_it (f_fi1 x y u v t w h) n i a).1)), some (.int (nI (i + n))), none, none, none] [] (tq_SC ++ tq_SR) tq_RR ((tq_it (f_fi1 x y u v t w h) n i a).2) J → EV g mX12_fill x0 0 0 40 [some (.ref 117), some (.int (nI x)), some (.int (nI y)), some (.int (nI u)), some (.int (nI v)), some (.int t), some (.int a.1), some (.int (nI i)), none, none, none] [] (tq_SC ++ tq_SR) tq_RR a.2 J := by
  intro n
  induction n with
  | zero =>
    intro i a hi hI kk
    rw [Nat.add_zero] at kk
    refine EV_blk (own := 12) C rfl [(.iload 7, 0, 0, 0, 0), (.bipush 121, 0, 0, 0, (nI 121))] (pc' := 44) (by decide +kernel) (lv' := [some (.ref 117), some (.int (nI x)), some (.int (nI y)), some (.int (nI u)), some (.int (nI v)), some (.int t), some (.int a.1), some (.int (nI i)), none, none, none]) (st' := [.int (nI 121), .int (nI i)]) (I' := a.2) (J' := J) rfl ?_
    refine EV_icmp_ge (off := 114) (tgt := 158) C (by decide +kernel) (by decide) (fun h1 => ?_) (fun h1 => ?_)
    · skip
      exact kk
    · skip
      exact absurd h1 (by simp (disch := omega) only [Int32.lt_iff_toInt_lt, Int32.le_iff_toInt_le, Int32.toInt_zero, nI_toInt, tq_m1]; omega)
  | succ n ih =>
    intro i a hi hI kk
    rw [show i + (n + 1) = (i + 1) + n by omega] at kk
    refine EV_blk (own := 12) C rfl [(.iload 7, 0, 0, 0, 0), (.bipush 121, 0, 0, 0, (nI 121))] (pc' := 44) (by decide +kernel) (lv' := [some (.ref 117), some (.int (nI x)), some (.int (nI y)), some (.int (nI u)), some (.int (nI v)), some (.int t), some (.int a.1), some (.int (nI i)), none, none, none]) (st' := [.int (nI 121), .int (nI i)]) (I' := a.2) (J' := J) rfl ?_
    refine EV_icmp_ge (off := 114) (tgt := 158) C (by decide +kernel) (by decide) (fun h1 => ?_) (fun h1 => ?_)
    · skip
      exact absurd h1 (by simp (disch := omega) only [Int32.lt_iff_toInt_lt, Int32.le_iff_toInt_le, Int32.toInt_zero, nI_toInt, tq_m1]; omega)
    · skip
      refine EV_blk (own := 12) C rfl [(.iload 7, 0, 0, 0, 0), (.bipush 11, 0, 0, 0, (nI 11))] (pc' := 51) (by decide +kernel) (lv' := [some (.ref 117), some (.int (nI x)), some (.int (nI y)), some (.int (nI u)), some (.int (nI v)), some (.int t), some (.int a.1), some (.int (nI i)), none, none, none]) (st' := [.int (nI 11), .int (nI i)]) (I' := a.2) (J' := J) rfl ?_
      refine EV_irem C (by decide +kernel) (by decide) ?_
      refine EV_blk (own := 12) C rfl [(.istore 8, 0, 0, 0, 0), (.iload 7, 0, 0, 0, 0), (.bipush 11, 0, 0, 0, (nI 11))] (pc' := 58) (by decide +kernel) (lv' := [some (.ref 117), some (.int (nI x)), some (.int (nI y)), some (.int (nI u)), some (.int (nI v)), some (.int t), some (.int a.1), some (.int (nI i)), some (.int (tq_rem (nI i) (nI 11))), none, none]) (st' := [.int (nI 11), .int (nI i)]) (I' := a.2) (J' := J) rfl ?_
      refine EV_idiv C (by decide +kernel) (by decide) ?_
      refine EV_blk (own := 12) C rfl [(.istore 9, 0, 0, 0, 0)] (pc' := 61) (by decide +kernel) (lv' := [some (.ref 117), some (.int (nI x)), some (.int (nI y)), some (.int (nI u)), some (.int (nI v)), some (.int t), some (.int a.1), some (.int (nI i)), some (.int (tq_rem (nI i) (nI 11))), some (.int ((nI i) / (nI 11))), none]) (st' := []) (I' := a.2) (J' := J) rfl ?_
      refine EV_lve (lv' := [some (.ref 117), some (.int (nI x)), some (.int (nI y)), some (.int (nI u)), some (.int (nI v)), some (.int t), some (.int a.1), some (.int (nI i)), some (.int (nI (i % 11))), some (.int (nI (i / 11))), none]) (by simp (disch := omega) only [tq_rem_nI, tq_div_nI]) ?_
      refine EV_blk (own := 12) C rfl [(.iload_n 1, 0, 0, 0, 0), (.iload_n 3, 0, 0, 0, 0)] (pc' := 63) (by decide +kernel) (lv' := [some (.ref 117), some (.int (nI x)), some (.int (nI y)), some (.int (nI u)), some (.int (nI v)), some (.int t), some (.int a.1), some (.int (nI i)), some (.int (nI (i % 11))), some (.int (nI (i / 11))), none]) (st' := [.int (nI u), .int (nI x)]) (I' := a.2) (J' := J) rfl ?_
      refine EV_icmp_ge (off := 13) (tgt := 76) C (by decide +kernel) (by decide) (fun h2 => ?_) (fun h2 => ?_)
      · skip
        refine EV_blk (own := 12) C rfl [(.iload 8, 0, 0, 0, 0), (.iload_n 3, 0, 0, 0, 0), (.iload_n 1, 0, 0, 0, 0)] (pc' := 80) (by decide +kernel) (lv' := [some (.ref 117), some (.int (nI x)), some (.int (nI y)), some (.int (nI u)), some (.int (nI v)), some (.int t), some (.int a.1), some (.int (nI i)), some (.int (nI (i % 11))), some (.int (nI (i / 11))), none]) (st' := [.int (nI x), .int (nI u), .int (nI (i % 11))]) (I' := a.2) (J' := J) rfl ?_
        refine EV_cS (own := 12) (idx := 62) (μ' := mX12_in) (av := [.int (nI (i % 11)), .int (nI u), .int (nI x)]) (rest := []) C hR rfl (Or.inl ⟨896, by decide⟩) kX12_in sX12_in (c_X12_in g a.2 J (nI (i % 11)) (nI u) (nI x) ) (by decide +kernel) rfl (by decide) (Nat.le_of_ble_eq_true rfl) rfl ⟨Nat.zero_le _, Nat.zero_le _⟩ ?_
        refine EV_blk (own := 12) C rfl [(.istore 10, 0, 0, 0, 0), (.iload 10, 0, 0, 0, 0)] (pc' := 87) (by decide +kernel) (lv' := [some (.ref 117), some (.int (nI x)), some (.int (nI y)), some (.int (nI u)), some (.int (nI v)), some (.int t), some (.int a.1), some (.int (nI i)), some (.int (nI (i % 11))), some (.int (nI (i / 11))), some (.int (tq_b ((nI u).toInt ≤ (nI (i % 11)).toInt ∧ (nI (i % 11)).toInt ≤ (nI x).toInt)))]) (st' := [.int (tq_b ((nI u).toInt ≤ (nI (i % 11)).toInt ∧ (nI (i % 11)).toInt ≤ (nI x).toInt))]) (I' := a.2) (J' := J) rfl ?_
        refine EV_if_eq (off := 38) (tgt := 125) C (by decide +kernel) (by decide) (fun h3 => ?_) (fun h3 => ?_)
        · skip
          refine EV_blk (own := 12) C rfl [(.iconst 0, 0, 0, 0, (nI 0)), (.istore 10, 0, 0, 0, 0), (.iload 6, 0, 0, 0, 0), (.iload 10, 0, 0, 0, 0)] (pc' := 132) (by decide +kernel) (lv' := [some (.ref 117), some (.int (nI x)), some (.int (nI y)), some (.int (nI u)), some (.int (nI v)), some (.int t), some (.int a.1), some (.int (nI i)), some (.int (nI (i % 11))), some (.int (nI (i / 11))), some (.int (nI 0))]) (st' := [.int (nI 0), .int a.1]) (I' := a.2) (J' := J) rfl ?_
          refine EV_if_eq (off := 16) (tgt := 148) C (by decide +kernel) (by decide) (fun h4 => ?_) (fun h4 => ?_)
          · skip
            refine EV_blk (own := 12) C rfl [(.iconst 0, 0, 0, 0, (nI 0)), (.iadd, 0, 0, 0, 0), (.istore 6, 0, 0, 0, 0), (.iinc 7 1, 0, 0, 0, (nI 1)), (.goto (-115), 0, 0, 0, 0)] (pc' := 40) (by decide +kernel) (lv' := [some (.ref 117), some (.int (nI x)), some (.int (nI y)), some (.int (nI u)), some (.int (nI v)), some (.int t), some (.int (a.1 + (nI 0))), some (.int ((nI i) + (nI 1))), some (.int (nI (i % 11))), some (.int (nI (i / 11))), some (.int (nI 0))]) (st' := []) (I' := a.2) (J' := J) rfl ?_
            refine EV_fg (lv' := [some (.ref 117), some (.int (nI x)), some (.int (nI y)), some (.int (nI u)), some (.int (nI v)), some (.int t), some (.int (a.1 + (nI 0))), some (.int ((nI i) + (nI 1))), none, none, none]) ⟨rfl, rfl, rfl, rfl, rfl, rfl, rfl, rfl, trivial⟩ ?_
            rw [show ((nI i) + (nI 1)) = (nI (i + 1)) from by simp (disch := omega) only [nI_add, tq_mul] <;> exact congrArg nI (by omega)]
            rw [tq_its, show (f_fi1 x y u v t w h) i a = ((a.1 + (nI 0)), a.2) from by simp only [f_fi1, if_neg h1, if_pos h2, if_pos h3, if_pos h4]] at kk
            have ihx := ih (i + 1) ((a.1 + (nI 0)), a.2) (by omega)
            dsimp only at ihx
            exact ihx hI kk
          · skip
            exact absurd (by decide) h4
        · skip
          refine EV_blk (own := 12) C rfl [(.iload_n 2, 0, 0, 0, 0), (.iload 4, 0, 0, 0, 0)] (pc' := 93) (by decide +kernel) (lv' := [some (.ref 117), some (.int (nI x)), some (.int (nI y)), some (.int (nI u)), some (.int (nI v)), some (.int t), some (.int a.1), some (.int (nI i)), some (.int (nI (i % 11))), some (.int (nI (i / 11))), some (.int (tq_b ((nI u).toInt ≤ (nI (i % 11)).toInt ∧ (nI (i % 11)).toInt ≤ (nI x).toInt)))]) (st' := [.int (nI v), .int (nI y)]) (I' := a.2) (J' := J) rfl ?_
          refine EV_icmp_ge (off := 17) (tgt := 110) C (by decide +kernel) (by decide) (fun h5 => ?_) (fun h5 => ?_)
          · skip
            refine EV_blk (own := 12) C rfl [(.iload 9, 0, 0, 0, 0), (.iload 4, 0, 0, 0, 0), (.iload_n 2, 0, 0, 0, 0)] (pc' := 115) (by decide +kernel) (lv' := [some (.ref 117), some (.int (nI x)), some (.int (nI y)), some (.int (nI u)), some (.int (nI v)), some (.int t), some (.int a.1), some (.int (nI i)), some (.int (nI (i % 11))), some (.int (nI (i / 11))), some (.int (tq_b ((nI u).toInt ≤ (nI (i % 11)).toInt ∧ (nI (i % 11)).toInt ≤ (nI x).toInt)))]) (st' := [.int (nI y), .int (nI v), .int (nI (i / 11))]) (I' := a.2) (J' := J) rfl ?_
            refine EV_cS (own := 12) (idx := 62) (μ' := mX12_in) (av := [.int (nI (i / 11)), .int (nI v), .int (nI y)]) (rest := []) C hR rfl (Or.inl ⟨896, by decide⟩) kX12_in sX12_in (c_X12_in g a.2 J (nI (i / 11)) (nI v) (nI y) ) (by decide +kernel) rfl (by decide) (Nat.le_of_ble_eq_true rfl) rfl ⟨Nat.zero_le _, Nat.zero_le _⟩ ?_
            refine EV_if_eq (off := 7) (tgt := 125) C (by decide +kernel) (by decide) (fun h6 => ?_) (fun h6 => ?_)
            · skip
              refine EV_blk (own := 12) C rfl [(.iconst 0, 0, 0, 0, (nI 0)), (.istore 10, 0, 0, 0, 0), (.iload 6, 0, 0, 0, 0), (.iload 10, 0, 0, 0, 0)] (pc' := 132) (by decide +kernel) (lv' := [some (.ref 117), some (.int (nI x)), some (.int (nI y)), some (.int (nI u)), some (.int (nI v)), some (.int t), some (.int a.1), some (.int (nI i)), some (.int (nI (i % 11))), some (.int (nI (i / 11))), some (.int (nI 0))]) (st' := [.int (nI 0), .int a.1]) (I' := a.2) (J' := J) rfl ?_
              refine EV_if_eq (off := 16) (tgt := 148) C (by decide +kernel) (by decide) (fun h7 => ?_) (fun h7 => ?_)
              · skip
                refine EV_blk (own := 12) C rfl [(.iconst 0, 0, 0, 0, (nI 0)), (.iadd, 0, 0, 0, 0), (.istore 6, 0, 0, 0, 0), (.iinc 7 1, 0, 0, 0, (nI 1)), (.goto (-115), 0, 0, 0, 0)] (pc' := 40) (by decide +kernel) (lv' := [some (.ref 117), some (.int (nI x)), some (.int (nI y)), some (.int (nI u)), some (.int (nI v)), some (.int t), some (.int (a.1 + (nI 0))), some (.int ((nI i) + (nI 1))), some (.int (nI (i % 11))), some (.int (nI (i / 11))), some (.int (nI 0))]) (st' := []) (I' := a.2) (J' := J) rfl ?_
                refine EV_fg (lv' := [some (.ref 117), some (.int (nI x)), some (.int (nI y)), some (.int (nI u)), some (.int (nI v)), some (.int t), some (.int (a.1 + (nI 0))), some (.int ((nI i) + (nI 1))), none, none, none]) ⟨rfl, rfl, rfl, rfl, rfl, rfl, rfl, rfl, trivial⟩ ?_
                rw [show ((nI i) + (nI 1)) = (nI (i + 1)) from by simp (disch := omega) only [nI_add, tq_mul] <;> exact congrArg nI (by omega)]
                rw [tq_its, show (f_fi1 x y u v t w h) i a = ((a.1 + (nI 0)), a.2) from by simp only [f_fi1, if_neg h1, if_pos h2, if_neg h3, if_pos h5, if_pos h6, if_pos h7]] at kk
                have ihx := ih (i + 1) ((a.1 + (nI 0)), a.2) (by omega)
                dsimp only at ihx
                exact ihx hI kk
              · skip
                exact absurd (by decide) h7
            · skip
              refine EV_blk (own := 12) C rfl [(.iconst 1, 0, 0, 0, (nI 1)), (.goto 4, 0, 0, 0, 0), (.istore 10, 0, 0, 0, 0), (.iload 6, 0, 0, 0, 0), (.iload 10, 0, 0, 0, 0)] (pc' := 132) (by decide +kernel) (lv' := [some (.ref 117), some (.int (nI x)), some (.int (nI y)), some (.int (nI u)), some (.int (nI v)), some (.int t), some (.int a.1), some (.int (nI i)), some (.int (nI (i % 11))), some (.int (nI (i / 11))), some (.int (nI 1))]) (st' := [.int (nI 1), .int a.1]) (I' := a.2) (J' := J) rfl ?_
              refine EV_if_eq (off := 16) (tgt := 148) C (by decide +kernel) (by decide) (fun h8 => ?_) (fun h8 => ?_)
              · skip
                exact absurd h8 (by decide)
              · skip
                refine EV_blk (own := 12) C rfl [(.aload_n 0, 0, 0, 0, 0), (.iload 8, 0, 0, 0, 0), (.iload 9, 0, 0, 0, 0), (.iload 5, 0, 0, 0, 0)] (pc' := 142) (by decide +kernel) (lv' := [some (.ref 117), some (.int (nI x)), some (.int (nI y)), some (.int (nI u)), some (.int (nI v)), some (.int t), some (.int a.1), some (.int (nI i)), some (.int (nI (i % 11))), some (.int (nI (i / 11))), some (.int (nI 1))]) (st' := [.int t, .int (nI (i / 11)), .int (nI (i % 11)), .ref 117, .int a.1]) (I' := a.2) (J' := J) rfl ?_
                refine EV_cV (own := 12) (idx := 90) (μ' := mX12_lays) (b := 117) (cb := 12) (av := [.int (nI (i % 11)), .int (nI (i / 11)), .int t]) (rest := [.int a.1]) C hR rfl (Or.inl ⟨1010, by decide⟩) kX12_lays sX12_lays (c_X12_lays g a.2 J (i % 11) (i / 11) t w h (by omega) (by omega) hI) rfl rfl (by decide +kernel) rfl (by decide) (Nat.le_of_ble_eq_true rfl) rfl ⟨Nat.zero_le _, Nat.zero_le _⟩ ?_
                refine EV_blk (own := 12) C rfl [(.goto 4, 0, 0, 0, 0), (.iadd, 0, 0, 0, 0), (.istore 6, 0, 0, 0, 0), (.iinc 7 1, 0, 0, 0, (nI 1)), (.goto (-115), 0, 0, 0, 0)] (pc' := 40) (by decide +kernel) (lv' := [some (.ref 117), some (.int (nI x)), some (.int (nI y)), some (.int (nI u)), some (.int (nI v)), some (.int t), some (.int (a.1 + (r_X12_lays a.2 (i % 11) (i / 11) t w h))), some (.int ((nI i) + (nI 1))), some (.int (nI (i % 11))), some (.int (nI (i / 11))), some (.int (nI 1))]) (st' := []) (I' := (I_X12_lays a.2 (i % 11) (i / 11) t w h)) (J' := J) rfl ?_
                refine EV_fg (lv' := [some (.ref 117), some (.int (nI x)), some (.int (nI y)), some (.int (nI u)), some (.int (nI v)), some (.int t), some (.int (a.1 + (r_X12_lays a.2 (i % 11) (i / 11) t w h))), some (.int ((nI i) + (nI 1))), none, none, none]) ⟨rfl, rfl, rfl, rfl, rfl, rfl, rfl, rfl, trivial⟩ ?_
                rw [show ((nI i) + (nI 1)) = (nI (i + 1)) from by simp (disch := omega) only [nI_add, tq_mul] <;> exact congrArg nI (by omega)]
                rw [tq_its, show (f_fi1 x y u v t w h) i a = ((a.1 + (r_X12_lays a.2 (i % 11) (i / 11) t w h)), (I_X12_lays a.2 (i % 11) (i / 11) t w h)) from by simp only [f_fi1, if_neg h1, if_pos h2, if_neg h3, if_pos h5, if_neg h6, if_neg h8]] at kk
                have ihx := ih (i + 1) ((a.1 + (r_X12_lays a.2 (i % 11) (i / 11) t w h)), (I_X12_lays a.2 (i % 11) (i / 11) t w h)) (by omega)
                dsimp only at ihx
                exact ihx hI.lays kk
          · skip
            refine EV_blk (own := 12) C rfl [(.iload 9, 0, 0, 0, 0), (.iload_n 2, 0, 0, 0, 0), (.iload 4, 0, 0, 0, 0)] (pc' := 101) (by decide +kernel) (lv' := [some (.ref 117), some (.int (nI x)), some (.int (nI y)), some (.int (nI u)), some (.int (nI v)), some (.int t), some (.int a.1), some (.int (nI i)), some (.int (nI (i % 11))), some (.int (nI (i / 11))), some (.int (tq_b ((nI u).toInt ≤ (nI (i % 11)).toInt ∧ (nI (i % 11)).toInt ≤ (nI x).toInt)))]) (st' := [.int (nI v), .int (nI y), .int (nI (i / 11))]) (I' := a.2) (J' := J) rfl ?_
            refine EV_cS (own := 12) (idx := 62) (μ' := mX12_in) (av := [.int (nI (i / 11)), .int (nI y), .int (nI v)]) (rest := []) C hR rfl (Or.inl ⟨896, by decide⟩) kX12_in sX12_in (c_X12_in g a.2 J (nI (i / 11)) (nI y) (nI v) ) (by decide +kernel) rfl (by decide) (Nat.le_of_ble_eq_true rfl) rfl ⟨Nat.zero_le _, Nat.zero_le _⟩ ?_
            refine EV_if_eq (off := 21) (tgt := 125) C (by decide +kernel) (by decide) (fun h9 => ?_) (fun h9 => ?_)
            · skip
              refine EV_blk (own := 12) C rfl [(.iconst 0, 0, 0, 0, (nI 0)), (.istore 10, 0, 0, 0, 0), (.iload 6, 0, 0, 0, 0), (.iload 10, 0, 0, 0, 0)] (pc' := 132) (by decide +kernel) (lv' := [some (.ref 117), some (.int (nI x)), some (.int (nI y)), some (.int (nI u)), some (.int (nI v)), some (.int t), some (.int a.1), some (.int (nI i)), some (.int (nI (i % 11))), some (.int (nI (i / 11))), some (.int (nI 0))]) (st' := [.int (nI 0), .int a.1]) (I' := a.2) (J' := J) rfl ?_
              refine EV_if_eq (off := 16) (tgt := 148) C (by decide +kernel) (by decide) (fun h10 => ?_) (fun h10 => ?_)
              · skip
                refine EV_blk (own := 12) C rfl [(.iconst 0, 0, 0, 0, (nI 0)), (.iadd, 0, 0, 0, 0), (.istore 6, 0, 0, 0, 0), (.iinc 7 1, 0, 0, 0, (nI 1)), (.goto (-115), 0, 0, 0, 0)] (pc' := 40) (by decide +kernel) (lv' := [some (.ref 117), some (.int (nI x)), some (.int (nI y)), some (.int (nI u)), some (.int (nI v)), some (.int t), some (.int (a.1 + (nI 0))), some (.int ((nI i) + (nI 1))), some (.int (nI (i % 11))), some (.int (nI (i / 11))), some (.int (nI 0))]) (st' := []) (I' := a.2) (J' := J) rfl ?_
                refine EV_fg (lv' := [some (.ref 117), some (.int (nI x)), some (.int (nI y)), some (.int (nI u)), some (.int (nI v)), some (.int t), some (.int (a.1 + (nI 0))), some (.int ((nI i) + (nI 1))), none, none, none]) ⟨rfl, rfl, rfl, rfl, rfl, rfl, rfl, rfl, trivial⟩ ?_
                rw [show ((nI i) + (nI 1)) = (nI (i + 1)) from by simp (disch := omega) only [nI_add, tq_mul] <;> exact congrArg nI (by omega)]
                rw [tq_its, show (f_fi1 x y u v t w h) i a = ((a.1 + (nI 0)), a.2) from by simp only [f_fi1, if_neg h1, if_pos h2, if_neg h3, if_neg h5, if_pos h9, if_pos h10]] at kk
                have ihx := ih (i + 1) ((a.1 + (nI 0)), a.2) (by omega)
                dsimp only at ihx
                exact ihx hI kk
              · skip
                exact absurd (by decide) h10
            · skip
              refine EV_blk (own := 12) C rfl [(.goto 14, 0, 0, 0, 0), (.iconst 1, 0, 0, 0, (nI 1)), (.goto 4, 0, 0, 0, 0), (.istore 10, 0, 0, 0, 0), (.iload 6, 0, 0, 0, 0), (.iload 10, 0, 0, 0, 0)] (pc' := 132) (by decide +kernel) (lv' := [some (.ref 117), some (.int (nI x)), some (.int (nI y)), some (.int (nI u)), some (.int (nI v)), some (.int t), some (.int a.1), some (.int (nI i)), some (.int (nI (i % 11))), some (.int (nI (i / 11))), some (.int (nI 1))]) (st' := [.int (nI 1), .int a.1]) (I' := a.2) (J' := J) rfl ?_
              refine EV_if_eq (off := 16) (tgt := 148) C (by decide +kernel) (by decide) (fun h11 => ?_) (fun h11 => ?_)
              · skip
                exact absurd h11 (by decide)
              · skip
                refine EV_blk (own := 12) C rfl [(.aload_n 0, 0, 0, 0, 0), (.iload 8, 0, 0, 0, 0), (.iload 9, 0, 0, 0, 0), (.iload 5, 0, 0, 0, 0)] (pc' := 142) (by decide +kernel) (lv' := [some (.ref 117), some (.int (nI x)), some (.int (nI y)), some (.int (nI u)), some (.int (nI v)), some (.int t), some (.int a.1), some (.int (nI i)), some (.int (nI (i % 11))), some (.int (nI (i / 11))), some (.int (nI 1))]) (st' := [.int t, .int (nI (i / 11)), .int (nI (i % 11)), .ref 117, .int a.1]) (I' := a.2) (J' := J) rfl ?_
                refine EV_cV (own := 12) (idx := 90) (μ' := mX12_lays) (b := 117) (cb := 12) (av := [.int (nI (i % 11)), .int (nI (i / 11)), .int t]) (rest := [.int a.1]) C hR rfl (Or.inl ⟨1010, by decide⟩) kX12_lays sX12_lays (c_X12_lays g a.2 J (i % 11) (i / 11) t w h (by omega) (by omega) hI) rfl rfl (by decide +kernel) rfl (by decide) (Nat.le_of_ble_eq_true rfl) rfl ⟨Nat.zero_le _, Nat.zero_le _⟩ ?_
                refine EV_blk (own := 12) C rfl [(.goto 4, 0, 0, 0, 0), (.iadd, 0, 0, 0, 0), (.istore 6, 0, 0, 0, 0), (.iinc 7 1, 0, 0, 0, (nI 1)), (.goto (-115), 0, 0, 0, 0)] (pc' := 40) (by decide +kernel) (lv' := [some (.ref 117), some (.int (nI x)), some (.int (nI y)), some (.int (nI u)), some (.int (nI v)), some (.int t), some (.int (a.1 + (r_X12_lays a.2 (i % 11) (i / 11) t w h))), some (.int ((nI i) + (nI 1))), some (.int (nI (i % 11))), some (.int (nI (i / 11))), some (.int (nI 1))]) (st' := []) (I' := (I_X12_lays a.2 (i % 11) (i / 11) t w h)) (J' := J) rfl ?_
                refine EV_fg (lv' := [some (.ref 117), some (.int (nI x)), some (.int (nI y)), some (.int (nI u)), some (.int (nI v)), some (.int t), some (.int (a.1 + (r_X12_lays a.2 (i % 11) (i / 11) t w h))), some (.int ((nI i) + (nI 1))), none, none, none]) ⟨rfl, rfl, rfl, rfl, rfl, rfl, rfl, rfl, trivial⟩ ?_
                rw [show ((nI i) + (nI 1)) = (nI (i + 1)) from by simp (disch := omega) only [nI_add, tq_mul] <;> exact congrArg nI (by omega)]
                rw [tq_its, show (f_fi1 x y u v t w h) i a = ((a.1 + (r_X12_lays a.2 (i % 11) (i / 11) t w h)), (I_X12_lays a.2 (i % 11) (i / 11) t w h)) from by simp only [f_fi1, if_neg h1, if_pos h2, if_neg h3, if_neg h5, if_neg h9, if_neg h11]] at kk
                have ihx := ih (i + 1) ((a.1 + (r_X12_lays a.2 (i % 11) (i / 11) t w h)), (I_X12_lays a.2 (i % 11) (i / 11) t w h)) (by omega)
                dsimp only at ihx
                exact ihx hI.lays kk
      · skip
        refine EV_blk (own := 12) C rfl [(.iload 8, 0, 0, 0, 0), (.iload_n 1, 0, 0, 0, 0), (.iload_n 3, 0, 0, 0, 0)] (pc' := 70) (by decide +kernel) (lv' := [some (.ref 117), some (.int (nI x)), some (.int (nI y)), some (.int (nI u)), some (.int (nI v)), some (.int t), some (.int a.1), some (.int (nI i)), some (.int (nI (i % 11))), some (.int (nI (i / 11))), none]) (st' := [.int (nI u), .int (nI x), .int (nI (i % 11))]) (I' := a.2) (J' := J) rfl ?_
        refine EV_cS (own := 12) (idx := 62) (μ' := mX12_in) (av := [.int (nI (i % 11)), .int (nI x), .int (nI u)]) (rest := []) C hR rfl (Or.inl ⟨896, by decide⟩) kX12_in sX12_in (c_X12_in g a.2 J (nI (i % 11)) (nI x) (nI u) ) (by decide +kernel) rfl (by decide) (Nat.le_of_ble_eq_true rfl) rfl ⟨Nat.zero_le _, Nat.zero_le _⟩ ?_
        refine EV_blk (own := 12) C rfl [(.goto 10, 0, 0, 0, 0), (.istore 10, 0, 0, 0, 0), (.iload 10, 0, 0, 0, 0)] (pc' := 87) (by decide +kernel) (lv' := [some (.ref 117), some (.int (nI x)), some (.int (nI y)), some (.int (nI u)), some (.int (nI v)), some (.int t), some (.int a.1), some (.int (nI i)), some (.int (nI (i % 11))), some (.int (nI (i / 11))), some (.int (tq_b ((nI x).toInt ≤ (nI (i % 11)).toInt ∧ (nI (i % 11)).toInt ≤ (nI u).toInt)))]) (st' := [.int (tq_b ((nI x).toInt ≤ (nI (i % 11)).toInt ∧ (nI (i % 11)).toInt ≤ (nI u).toInt))]) (I' := a.2) (J' := J) rfl ?_
        refine EV_if_eq (off := 38) (tgt := 125) C (by decide +kernel) (by decide) (fun h12 => ?_) (fun h12 => ?_)
        · skip
          refine EV_blk (own := 12) C rfl [(.iconst 0, 0, 0, 0, (nI 0)), (.istore 10, 0, 0, 0, 0), (.iload 6, 0, 0, 0, 0), (.iload 10, 0, 0, 0, 0)] (pc' := 132) (by decide +kernel) (lv' := [some (.ref 117), some (.int (nI x)), some (.int (nI y)), some (.int (nI u)), some (.int (nI v)), some (.int t), some (.int a.1), some (.int (nI i)), some (.int (nI (i % 11))), some (.int (nI (i / 11))), some (.int (nI 0))]) (st' := [.int (nI 0), .int a.1]) (I' := a.2) (J' := J) rfl ?_
          refine EV_if_eq (off := 16) (tgt := 148) C (by decide +kernel) (by decide) (fun h13 => ?_) (fun h13 => ?_)
          · skip
            refine EV_blk (own := 12) C rfl [(.iconst 0, 0, 0, 0, (nI 0)), (.iadd, 0, 0, 0, 0), (.istore 6, 0, 0, 0, 0), (.iinc 7 1, 0, 0, 0, (nI 1)), (.goto (-115), 0, 0, 0, 0)] (pc' := 40) (by decide +kernel) (lv' := [some (.ref 117), some (.int (nI x)), some (.int (nI y)), some (.int (nI u)), some (.int (nI v)), some (.int t), some (.int (a.1 + (nI 0))), some (.int ((nI i) + (nI 1))), some (.int (nI (i % 11))), some (.int (nI (i / 11))), some (.int (nI 0))]) (st' := []) (I' := a.2) (J' := J) rfl ?_
            refine EV_fg (lv' := [some (.ref 117), some (.int (nI x)), some (.int (nI y)), some (.int (nI u)), some (.int (nI v)), some (.int t), some (.int (a.1 + (nI 0))), some (.int ((nI i) + (nI 1))), none, none, none]) ⟨rfl, rfl, rfl, rfl, rfl, rfl, rfl, rfl, trivial⟩ ?_
            rw [show ((nI i) + (nI 1)) = (nI (i + 1)) from by simp (disch := omega) only [nI_add, tq_mul] <;> exact congrArg nI (by omega)]
            rw [tq_its, show (f_fi1 x y u v t w h) i a = ((a.1 + (nI 0)), a.2) from by simp only [f_fi1, if_neg h1, if_neg h2, if_pos h12, if_pos h13]] at kk
            have ihx := ih (i + 1) ((a.1 + (nI 0)), a.2) (by omega)
            dsimp only at ihx
            exact ihx hI kk
          · skip
            exact absurd (by decide) h13
        · skip
          refine EV_blk (own := 12) C rfl [(.iload_n 2, 0, 0, 0, 0), (.iload 4, 0, 0, 0, 0)] (pc' := 93) (by decide +kernel) (lv' := [some (.ref 117), some (.int (nI x)), some (.int (nI y)), some (.int (nI u)), some (.int (nI v)), some (.int t), some (.int a.1), some (.int (nI i)), some (.int (nI (i % 11))), some (.int (nI (i / 11))), some (.int (tq_b ((nI x).toInt ≤ (nI (i % 11)).toInt ∧ (nI (i % 11)).toInt ≤ (nI u).toInt)))]) (st' := [.int (nI v), .int (nI y)]) (I' := a.2) (J' := J) rfl ?_
          refine EV_icmp_ge (off := 17) (tgt := 110) C (by decide +kernel) (by decide) (fun h14 => ?_) (fun h14 => ?_)
          · skip
            refine EV_blk (own := 12) C rfl [(.iload 9, 0, 0, 0, 0), (.iload 4, 0, 0, 0, 0), (.iload_n 2, 0, 0, 0, 0)] (pc' := 115) (by decide +kernel) (lv' := [some (.ref 117), some (.int (nI x)), some (.int (nI y)), some (.int (nI u)), some (.int (nI v)), some (.int t), some (.int a.1), some (.int (nI i)), some (.int (nI (i % 11))), some (.int (nI (i / 11))), some (.int (tq_b ((nI x).toInt ≤ (nI (i % 11)).toInt ∧ (nI (i % 11)).toInt ≤ (nI u).toInt)))]) (st' := [.int (nI y), .int (nI v), .int (nI (i / 11))]) (I' := a.2) (J' := J) rfl ?_
            refine EV_cS (own := 12) (idx := 62) (μ' := mX12_in) (av := [.int (nI (i / 11)), .int (nI v), .int (nI y)]) (rest := []) C hR rfl (Or.inl ⟨896, by decide⟩) kX12_in sX12_in (c_X12_in g a.2 J (nI (i / 11)) (nI v) (nI y) ) (by decide +kernel) rfl (by decide) (Nat.le_of_ble_eq_true rfl) rfl ⟨Nat.zero_le _, Nat.zero_le _⟩ ?_
            refine EV_if_eq (off := 7) (tgt := 125) C (by decide +kernel) (by decide) (fun h15 => ?_) (fun h15 => ?_)
            · skip
              refine EV_blk (own := 12) C rfl [(.iconst 0, 0, 0, 0, (nI 0)), (.istore 10, 0, 0, 0, 0), (.iload 6, 0, 0, 0, 0), (.iload 10, 0, 0, 0, 0)] (pc' := 132) (by decide +kernel) (lv' := [some (.ref 117), some (.int (nI x)), some (.int (nI y)), some (.int (nI u)), some (.int (nI v)), some (.int t), some (.int a.1), some (.int (nI i)), some (.int (nI (i % 11))), some (.int (nI (i / 11))), some (.int (nI 0))]) (st' := [.int (nI 0), .int a.1]) (I' := a.2) (J' := J) rfl ?_
              refine EV_if_eq (off := 16) (tgt := 148) C (by decide +kernel) (by decide) (fun h16 => ?_) (fun h16 => ?_)
              · skip
                refine EV_blk (own := 12) C rfl [(.iconst 0, 0, 0, 0, (nI 0)), (.iadd, 0, 0, 0, 0), (.istore 6, 0, 0, 0, 0), (.iinc 7 1, 0, 0, 0, (nI 1)), (.goto (-115), 0, 0, 0, 0)] (pc' := 40) (by decide +kernel) (lv' := [some (.ref 117), some (.int (nI x)), some (.int (nI y)), some (.int (nI u)), some (.int (nI v)), some (.int t), some (.int (a.1 + (nI 0))), some (.int ((nI i) + (nI 1))), some (.int (nI (i % 11))), some (.int (nI (i / 11))), some (.int (nI 0))]) (st' := []) (I' := a.2) (J' := J) rfl ?_
                refine EV_fg (lv' := [some (.ref 117), some (.int (nI x)), some (.int (nI y)), some (.int (nI u)), some (.int (nI v)), some (.int t), some (.int (a.1 + (nI 0))), some (.int ((nI i) + (nI 1))), none, none, none]) ⟨rfl, rfl, rfl, rfl, rfl, rfl, rfl, rfl, trivial⟩ ?_
                rw [show ((nI i) + (nI 1)) = (nI (i + 1)) from by simp (disch := omega) only [nI_add, tq_mul] <;> exact congrArg nI (by omega)]
                rw [tq_its, show (f_fi1 x y u v t w h) i a = ((a.1 + (nI 0)), a.2) from by simp only [f_fi1, if_neg h1, if_neg h2, if_neg h12, if_pos h14, if_pos h15, if_pos h16]] at kk
                have ihx := ih (i + 1) ((a.1 + (nI 0)), a.2) (by omega)
                dsimp only at ihx
                exact ihx hI kk
              · skip
                exact absurd (by decide) h16
            · skip
              refine EV_blk (own := 12) C rfl [(.iconst 1, 0, 0, 0, (nI 1)), (.goto 4, 0, 0, 0, 0), (.istore 10, 0, 0, 0, 0), (.iload 6, 0, 0, 0, 0), (.iload 10, 0, 0, 0, 0)] (pc' := 132) (by decide +kernel) (lv' := [some (.ref 117), some (.int (nI x)), some (.int (nI y)), some (.int (nI u)), some (.int (nI v)), some (.int t), some (.int a.1), some (.int (nI i)), some (.int (nI (i % 11))), some (.int (nI (i / 11))), some (.int (nI 1))]) (st' := [.int (nI 1), .int a.1]) (I' := a.2) (J' := J) rfl ?_
              refine EV_if_eq (off := 16) (tgt := 148) C (by decide +kernel) (by decide) (fun h17 => ?_) (fun h17 => ?_)
              · skip
                exact absurd h17 (by decide)
              · skip
                refine EV_blk (own := 12) C rfl [(.aload_n 0, 0, 0, 0, 0), (.iload 8, 0, 0, 0, 0), (.iload 9, 0, 0, 0, 0), (.iload 5, 0, 0, 0, 0)] (pc' := 142) (by decide +kernel) (lv' := [some (.ref 117), some (.int (nI x)), some (.int (nI y)), some (.int (nI u)), some (.int (nI v)), some (.int t), some (.int a.1), some (.int (nI i)), some (.int (nI (i % 11))), some (.int (nI (i / 11))), some (.int (nI 1))]) (st' := [.int t, .int (nI (i / 11)), .int (nI (i % 11)), .ref 117, .int a.1]) (I' := a.2) (J' := J) rfl ?_
                refine EV_cV (own := 12) (idx := 90) (μ' := mX12_lays) (b := 117) (cb := 12) (av := [.int (nI (i % 11)), .int (nI (i / 11)), .int t]) (rest := [.int a.1]) C hR rfl (Or.inl ⟨1010, by decide⟩) kX12_lays sX12_lays (c_X12_lays g a.2 J (i % 11) (i / 11) t w h (by omega) (by omega) hI) rfl rfl (by decide +kernel) rfl (by decide) (Nat.le_of_ble_eq_true rfl) rfl ⟨Nat.zero_le _, Nat.zero_le _⟩ ?_
                refine EV_blk (own := 12) C rfl [(.goto 4, 0, 0, 0, 0), (.iadd, 0, 0, 0, 0), (.istore 6, 0, 0, 0, 0), (.iinc 7 1, 0, 0, 0, (nI 1)), (.goto (-115), 0, 0, 0, 0)] (pc' := 40) (by decide +kernel) (lv' := [some (.ref 117), some (.int (nI x)), some (.int (nI y)), some (.int (nI u)), some (.int (nI v)), some (.int t), some (.int (a.1 + (r_X12_lays a.2 (i % 11) (i / 11) t w h))), some (.int ((nI i) + (nI 1))), some (.int (nI (i % 11))), some (.int (nI (i / 11))), some (.int (nI 1))]) (st' := []) (I' := (I_X12_lays a.2 (i % 11) (i / 11) t w h)) (J' := J) rfl ?_
                refine EV_fg (lv' := [some (.ref 117), some (.int (nI x)), some (.int (nI y)), some (.int (nI u)), some (.int (nI v)), some (.int t), some (.int (a.1 + (r_X12_lays a.2 (i % 11) (i / 11) t w h))), some (.int ((nI i) + (nI 1))), none, none, none]) ⟨rfl, rfl, rfl, rfl, rfl, rfl, rfl, rfl, trivial⟩ ?_
                rw [show ((nI i) + (nI 1)) = (nI (i + 1)) from by simp (disch := omega) only [nI_add, tq_mul] <;> exact congrArg nI (by omega)]
                rw [tq_its, show (f_fi1 x y u v t w h) i a = ((a.1 + (r_X12_lays a.2 (i % 11) (i / 11) t w h)), (I_X12_lays a.2 (i % 11) (i / 11) t w h)) from by simp only [f_fi1, if_neg h1, if_neg h2, if_neg h12, if_pos h14, if_neg h15, if_neg h17]] at kk
                have ihx := ih (i + 1) ((a.1 + (r_X12_lays a.2 (i % 11) (i / 11) t w h)), (I_X12_lays a.2 (i % 11) (i / 11) t w h)) (by omega)
                dsimp only at ihx
                exact ihx hI.lays kk
          · skip
            refine EV_blk (own := 12) C rfl [(.iload 9, 0, 0, 0, 0), (.iload_n 2, 0, 0, 0, 0), (.iload 4, 0, 0, 0, 0)] (pc' := 101) (by decide +kernel) (lv' := [some (.ref 117), some (.int (nI x)), some (.int (nI y)), some (.int (nI u)), some (.int (nI v)), some (.int t), some (.int a.1), some (.int (nI i)), some (.int (nI (i % 11))), some (.int (nI (i / 11))), some (.int (tq_b ((nI x).toInt ≤ (nI (i % 11)).toInt ∧ (nI (i % 11)).toInt ≤ (nI u).toInt)))]) (st' := [.int (nI v), .int (nI y), .int (nI (i / 11))]) (I' := a.2) (J' := J) rfl ?_
            refine EV_cS (own := 12) (idx := 62) (μ' := mX12_in) (av := [.int (nI (i / 11)), .int (nI y), .int (nI v)]) (rest := []) C hR rfl (Or.inl ⟨896, by decide⟩) kX12_in sX12_in (c_X12_in g a.2 J (nI (i / 11)) (nI y) (nI v) ) (by decide +kernel) rfl (by decide) (Nat.le_of_ble_eq_true rfl) rfl ⟨Nat.zero_le _, Nat.zero_le _⟩ ?_
            refine EV_if_eq (off := 21) (tgt := 125) C (by decide +kernel) (by decide) (fun h18 => ?_) (fun h18 => ?_)
            · skip
              refine EV_blk (own := 12) C rfl [(.iconst 0, 0, 0, 0, (nI 0)), (.istore 10, 0, 0, 0, 0), (.iload 6, 0, 0, 0, 0), (.iload 10, 0, 0, 0, 0)] (pc' := 132) (by decide +kernel) (lv' := [some (.ref 117), some (.int (nI x)), some (.int (nI y)), some (.int (nI u)), some (.int (nI v)), some (.int t), some (.int a.1), some (.int (nI i)), some (.int (nI (i % 11))), some (.int (nI (i / 11))), some (.int (nI 0))]) (st' := [.int (nI 0), .int a.1]) (I' := a.2) (J' := J) rfl ?_
              refine EV_if_eq (off := 16) (tgt := 148) C (by decide +kernel) (by decide) (fun h19 => ?_) (fun h19 => ?_)
              · skip
                refine EV_blk (own := 12) C rfl [(.iconst 0, 0, 0, 0, (nI 0)), (.iadd, 0, 0, 0, 0), (.istore 6, 0, 0, 0, 0), (.iinc 7 1, 0, 0, 0, (nI 1)), (.goto (-115), 0, 0, 0, 0)] (pc' := 40) (by decide +kernel) (lv' := [some (.ref 117), some (.int (nI x)), some (.int (nI y)), some (.int (nI u)), some (.int (nI v)), some (.int t), some (.int (a.1 + (nI 0))), some (.int ((nI i) + (nI 1))), some (.int (nI (i % 11))), some (.int (nI (i / 11))), some (.int (nI 0))]) (st' := []) (I' := a.2) (J' := J) rfl ?_
                refine EV_fg (lv' := [some (.ref 117), some (.int (nI x)), some (.int (nI y)), some (.int (nI u)), some (.int (nI v)), some (.int t), some (.int (a.1 + (nI 0))), some (.int ((nI i) + (nI 1))), none, none, none]) ⟨rfl, rfl, rfl, rfl, rfl, rfl, rfl, rfl, trivial⟩ ?_
                rw [show ((nI i) + (nI 1)) = (nI (i + 1)) from by simp (disch := omega) only [nI_add, tq_mul] <;> exact congrArg nI (by omega)]
                rw [tq_its, show (f_fi1 x y u v t w h) i a = ((a.1 + (nI 0)), a.2) from by simp only [f_fi1, if_neg h1, if_neg h2, if_neg h12, if_neg h14, if_pos h18, if_pos h19]] at kk
                have ihx := ih (i + 1) ((a.1 + (nI 0)), a.2) (by omega)
                dsimp only at ihx
                exact ihx hI kk
              · skip
                exact absurd (by decide) h19
            · skip
              refine EV_blk (own := 12) C rfl [(.goto 14, 0, 0, 0, 0), (.iconst 1, 0, 0, 0, (nI 1)), (.goto 4, 0, 0, 0, 0), (.istore 10, 0, 0, 0, 0), (.iload 6, 0, 0, 0, 0), (.iload 10, 0, 0, 0, 0)] (pc' := 132) (by decide +kernel) (lv' := [some (.ref 117), some (.int (nI x)), some (.int (nI y)), some (.int (nI u)), some (.int (nI v)), some (.int t), some (.int a.1), some (.int (nI i)), some (.int (nI (i % 11))), some (.int (nI (i / 11))), some (.int (nI 1))]) (st' := [.int (nI 1), .int a.1]) (I' := a.2) (J' := J) rfl ?_
              refine EV_if_eq (off := 16) (tgt := 148) C (by decide +kernel) (by decide) (fun h20 => ?_) (fun h20 => ?_)
              · skip
                exact absurd h20 (by decide)
              · skip
                refine EV_blk (own := 12) C rfl [(.aload_n 0, 0, 0, 0, 0), (.iload 8, 0, 0, 0, 0), (.iload 9, 0, 0, 0, 0), (.iload 5, 0, 0, 0, 0)] (pc' := 142) (by decide +kernel) (lv' := [some (.ref 117), some (.int (nI x)), some (.int (nI y)), some (.int (nI u)), some (.int (nI v)), some (.int t), some (.int a.1), some (.int (nI i)), some (.int (nI (i % 11))), some (.int (nI (i / 11))), some (.int (nI 1))]) (st' := [.int t, .int (nI (i / 11)), .int (nI (i % 11)), .ref 117, .int a.1]) (I' := a.2) (J' := J) rfl ?_
                refine EV_cV (own := 12) (idx := 90) (μ' := mX12_lays) (b := 117) (cb := 12) (av := [.int (nI (i % 11)), .int (nI (i / 11)), .int t]) (rest := [.int a.1]) C hR rfl (Or.inl ⟨1010, by decide⟩) kX12_lays sX12_lays (c_X12_lays g a.2 J (i % 11) (i / 11) t w h (by omega) (by omega) hI) rfl rfl (by decide +kernel) rfl (by decide) (Nat.le_of_ble_eq_true rfl) rfl ⟨Nat.zero_le _, Nat.zero_le _⟩ ?_
                refine EV_blk (own := 12) C rfl [(.goto 4, 0, 0, 0, 0), (.iadd, 0, 0, 0, 0), (.istore 6, 0, 0, 0, 0), (.iinc 7 1, 0, 0, 0, (nI 1)), (.goto (-115), 0, 0, 0, 0)] (pc' := 40) (by decide +kernel) (lv' := [some (.ref 117), some (.int (nI x)), some (.int (nI y)), some (.int (nI u)), some (.int (nI v)), some (.int t), some (.int (a.1 + (r_X12_lays a.2 (i % 11) (i / 11) t w h))), some (.int ((nI i) + (nI 1))), some (.int (nI (i % 11))), some (.int (nI (i / 11))), some (.int (nI 1))]) (st' := []) (I' := (I_X12_lays a.2 (i % 11) (i / 11) t w h)) (J' := J) rfl ?_
                refine EV_fg (lv' := [some (.ref 117), some (.int (nI x)), some (.int (nI y)), some (.int (nI u)), some (.int (nI v)), some (.int t), some (.int (a.1 + (r_X12_lays a.2 (i % 11) (i / 11) t w h))), some (.int ((nI i) + (nI 1))), none, none, none]) ⟨rfl, rfl, rfl, rfl, rfl, rfl, rfl, rfl, trivial⟩ ?_
                rw [show ((nI i) + (nI 1)) = (nI (i + 1)) from by simp (disch := omega) only [nI_add, tq_mul] <;> exact congrArg nI (by omega)]
                rw [tq_its, show (f_fi1 x y u v t w h) i a = ((a.1 + (r_X12_lays a.2 (i % 11) (i / 11) t w h)), (I_X12_lays a.2 (i % 11) (i / 11) t w h)) from by simp only [f_fi1, if_neg h1, if_neg h2, if_neg h12, if_neg h14, if_neg h18, if_neg h20]] at kk
                have ihx := ih (i + 1) ((a.1 + (r_X12_lays a.2 (i % 11) (i / 11) t w h)), (I_X12_lays a.2 (i % 11) (i / 11) t w h)) (by omega)
                dsimp only at ihx
                exact ihx hI.lays kk
theorem fr_fi1 (x y u v : Nat) (t : Int32) (w h : Nat) {cz : Nat} (hc : cz ≠ 118) (n i : Nat) (a : Int32 × tq_I) (jz : Nat) : (tq_it (f_fi1 x y u v t w h) n i a).2 cz jz = a.2 cz jz := by
  have hc0 := hc
  refine tq_itF2 (fun i a j => ?_) n i a jz
  simp only [f_fi1]
  (repeat' split) <;> simp (disch := first | assumption | (simp only [ne_eq] at *; simp [*])) [tq_u, tq_cp, hc0, fr_X12_touches, fr_ta1, fr_X12_touchesAll, fr_cps1, fr_X12_copies, fr_sav, fr_bg1, fr_bg2, fr_X12_begins, fr_ly1, fr_X12_lays, fr_bgn1, fr_X12_begin, fr_X12_setCorner]
def r_X12_fill (I : tq_I) (x y u v t : Int32) (w h s : Nat) : Int32 := (if (tq_b (tr_corner I x y)) = 0 then (-2) else (if (tq_b (tr_corner I u v)) = 0 then (-2) else (if (tq_b ((nI 0).toInt ≤ t.toInt ∧ t.toInt ≤ (nI 5).toInt)) = 0 then (-2) else (tq_it (f_fi1 (tq_N x) (tq_N y) (tq_N u) (tq_N v) t w h) 121 0 ((nI 0), (tr_sav I s))).1)))
def I_X12_fill (I : tq_I) (x y u v t : Int32) (w h s : Nat) : tq_I := (if (tq_b (tr_corner I x y)) = 0 then I else (if (tq_b (tr_corner I u v)) = 0 then I else (if (tq_b ((nI 0).toInt ≤ t.toInt ∧ t.toInt ≤ (nI 5).toInt)) = 0 then I else (tq_it (f_fi1 (tq_N x) (tq_N y) (tq_N u) (tq_N v) t w h) 121 0 ((nI 0), (tr_sav I s))).2)))
set_option maxRecDepth 20000 in
theorem c_X12_fill (g : tq_G) (I : tq_I) (J : Int64) (x y u v t : Int32) (w h s : Nat) (k : tr_wh I w h) (hs : I 117 1 = nI s) (hs5 : s ≤ 5)  : CT g mX12_fill 4 0 0 [.ref 117, .int x, .int y, .int u, .int v, .int t] (tq_SC ++ tq_SR) tq_RR I J (tq_ret (tq_SC ++ tq_SR) tq_RR (some (.int (r_X12_fill I x y u v t w h s))) (I_X12_fill I x y u v t w h s) J) := by
  refine CT.ret kX12_fill (Nat.le_of_ble_eq_true rfl) (fun x0 C hR hZ => ?_)
  refine EV_en (lv' := [some (.ref 117), some (.int x), some (.int y), some (.int u), some (.int v), some (.int t), none, none, none, none, none]) 5 rfl ?_
  refine EV_blk (own := 12) C rfl [(.aload_n 0, 0, 0, 0, 0), (.iload_n 1, 0, 0, 0, 0), (.iload_n 2, 0, 0, 0, 0)] (pc' := 3) (by decide +kernel) (lv' := [some (.ref 117), some (.int x), some (.int y), some (.int u), some (.int v), some (.int t), none, none, none, none, none]) (st' := [.int y, .int x, .ref 117]) (I' := I) (J' := J) rfl ?_
  refine EV_cV (own := 12) (idx := 87) (μ' := mX12_isCorner) (b := 117) (cb := 12) (av := [.int x, .int y]) (rest := []) C hR rfl (Or.inl ⟨1002, by decide⟩) kX12_isCorner sX12_isCorner (c_X12_isCorner g I J x y ) rfl rfl (by decide +kernel) rfl (by decide) (Nat.le_of_ble_eq_true rfl) rfl ⟨Nat.zero_le _, Nat.zero_le _⟩ ?_
  refine EV_if_eq (off := 21) (tgt := 27) C (by decide +kernel) (by decide) (fun h1 => ?_) (fun h1 => ?_)
  · skip
    refine EV_blk (own := 12) C rfl [(.bipush (-2), 0, 0, 0, (-2))] (pc' := 29) (by decide +kernel) (lv' := [some (.ref 117), some (.int x), some (.int y), some (.int u), some (.int v), some (.int t), none, none, none, none, none]) (st' := [.int (-2)]) (I' := I) (J' := J) rfl ?_
    exact EV_iret C hZ rfl (by decide +kernel) (Nat.le_refl _) (Nat.le_refl _) ⟨tq_some (by simp only [r_X12_fill, if_pos h1]), rfl, rfl, by simp only [I_X12_fill, if_pos h1], rfl⟩
  · skip
    have hc := tq_b10 h1
    have hxy := tr_corner.ix k hc
    have hw10 := k.2.2.2.1
    have hh10 := k.2.2.2.2.2
    refine EV_blk (own := 12) C rfl [(.aload_n 0, 0, 0, 0, 0), (.iload_n 3, 0, 0, 0, 0), (.iload 4, 0, 0, 0, 0)] (pc' := 13) (by decide +kernel) (lv' := [some (.ref 117), some (.int x), some (.int y), some (.int u), some (.int v), some (.int t), none, none, none, none, none]) (st' := [.int v, .int u, .ref 117]) (I' := I) (J' := J) rfl ?_
    refine EV_cV (own := 12) (idx := 87) (μ' := mX12_isCorner) (b := 117) (cb := 12) (av := [.int u, .int v]) (rest := []) C hR rfl (Or.inl ⟨1002, by decide⟩) kX12_isCorner sX12_isCorner (c_X12_isCorner g I J u v ) rfl rfl (by decide +kernel) rfl (by decide) (Nat.le_of_ble_eq_true rfl) rfl ⟨Nat.zero_le _, Nat.zero_le _⟩ ?_
    refine EV_if_eq (off := 11) (tgt := 27) C (by decide +kernel) (by decide) (fun h2 => ?_) (fun h2 => ?_)
    · skip
      refine EV_blk (own := 12) C rfl [(.bipush (-2), 0, 0, 0, (-2))] (pc' := 29) (by decide +kernel) (lv' := [some (.ref 117), some (.int x), some (.int y), some (.int u), some (.int v), some (.int t), none, none, none, none, none]) (st' := [.int (-2)]) (I' := I) (J' := J) rfl ?_
      exact EV_iret C hZ rfl (by decide +kernel) (Nat.le_refl _) (Nat.le_refl _) ⟨tq_some (by simp only [r_X12_fill, if_neg h1, if_pos h2]), rfl, rfl, by simp only [I_X12_fill, if_neg h1, if_pos h2], rfl⟩
    · skip
      have hc2 := tq_b10 h2
      have huv := tr_corner.ix k hc2
      refine EV_blk (own := 12) C rfl [(.iload 5, 0, 0, 0, 0)] (pc' := 21) (by decide +kernel) (lv' := [some (.ref 117), some (.int x), some (.int y), some (.int u), some (.int v), some (.int t), none, none, none, none, none]) (st' := [.int t]) (I' := I) (J' := J) rfl ?_
      refine EV_cS (own := 12) (idx := 80) (μ' := mX12_isTerrain) (av := [.int t]) (rest := []) C hR rfl (Or.inl ⟨983, by decide⟩) kX12_isTerrain sX12_isTerrain (c_X12_isTerrain g I J t ) (by decide +kernel) rfl (by decide) (Nat.le_of_ble_eq_true rfl) rfl ⟨Nat.zero_le _, Nat.zero_le _⟩ ?_
      refine EV_if_ne (off := 6) (tgt := 30) C (by decide +kernel) (by decide) (fun h3 => ?_) (fun h3 => ?_)
      · skip
        have ht := tq_t05 (tq_b10 h3)
        refine EV_lve (lv' := [some (.ref 117), some (.int (nI (tq_N x))), some (.int (nI (tq_N y))), some (.int (nI (tq_N u))), some (.int (nI (tq_N v))), some (.int t), none, none, none, none, none]) (by rw [← tq_nIN hxy.1, ← tq_nIN hxy.2.1, ← tq_nIN huv.1, ← tq_nIN huv.2.1]) ?_
        refine EV_blk (own := 12) C rfl [(.aload_n 0, 0, 0, 0, 0)] (pc' := 31) (by decide +kernel) (lv' := [some (.ref 117), some (.int (nI (tq_N x))), some (.int (nI (tq_N y))), some (.int (nI (tq_N u))), some (.int (nI (tq_N v))), some (.int t), none, none, none, none, none]) (st' := [.ref 117]) (I' := I) (J' := J) rfl ?_
        refine EV_cV (own := 12) (idx := 84) (μ' := mX12_saves) (b := 117) (cb := 12) (av := []) (rest := []) C hR rfl (Or.inl ⟨986, by decide⟩) kX12_saves sX12_saves (c_saves g I J s hs hs5) rfl rfl (by decide +kernel) rfl (by decide) (Nat.le_of_ble_eq_true rfl) rfl ⟨Nat.zero_le _, Nat.zero_le _⟩ ?_
        refine EV_blk (own := 12) C rfl [(.iconst 0, 0, 0, 0, (nI 0)), (.istore 6, 0, 0, 0, 0), (.iconst 0, 0, 0, 0, (nI 0)), (.istore 7, 0, 0, 0, 0)] (pc' := 40) (by decide +kernel) (lv' := [some (.ref 117), some (.int (nI (tq_N x))), some (.int (nI (tq_N y))), some (.int (nI (tq_N u))), some (.int (nI (tq_N v))), some (.int t), some (.int (nI 0)), some (.int (nI 0)), none, none, none]) (st' := []) (I' := (tr_sav I s)) (J' := J) rfl ?_
        refine lp_fi1 C hR J (tq_N x) (tq_N y) (tq_N u) (tq_N v) t w h  121 0 ((nI 0), (tr_sav I s)) (by omega) k.sav ?_
        refine EV_blk (own := 12) C rfl [(.iload 6, 0, 0, 0, 0)] (pc' := 160) (by decide +kernel) (lv' := [some (.ref 117), some (.int (nI (tq_N x))), some (.int (nI (tq_N y))), some (.int (nI (tq_N u))), some (.int (nI (tq_N v))), some (.int t), some (.int ((tq_it (f_fi1 (tq_N x) (tq_N y) (tq_N u) (tq_N v) t w h) 121 0 ((nI 0), (tr_sav I s))).1)), some (.int (nI ((0 + 121)))), none, none, none]) (st' := [.int ((tq_it (f_fi1 (tq_N x) (tq_N y) (tq_N u) (tq_N v) t w h) 121 0 ((nI 0), (tr_sav I s))).1)]) (I' := (tq_it (f_fi1 (tq_N x) (tq_N y) (tq_N u) (tq_N v) t w h) 121 0 ((nI 0), (tr_sav I s))).2) (J' := J) rfl ?_
        exact EV_iret C hZ rfl (by decide +kernel) (Nat.le_refl _) (Nat.le_refl _) ⟨tq_some (by simp only [r_X12_fill, if_neg h1, if_neg h2, if_neg h3]), rfl, rfl, by simp only [I_X12_fill, if_neg h1, if_neg h2, if_neg h3], rfl⟩
      · skip
        refine EV_blk (own := 12) C rfl [(.bipush (-2), 0, 0, 0, (-2))] (pc' := 29) (by decide +kernel) (lv' := [some (.ref 117), some (.int x), some (.int y), some (.int u), some (.int v), some (.int t), none, none, none, none, none]) (st' := [.int (-2)]) (I' := I) (J' := J) rfl ?_
        exact EV_iret C hZ rfl (by decide +kernel) (Nat.le_refl _) (Nat.le_refl _) ⟨tq_some (by simp only [r_X12_fill, if_neg h1, if_neg h2, if_pos h3]), rfl, rfl, by simp only [I_X12_fill, if_neg h1, if_neg h2, if_pos h3], rfl⟩
theorem fr_X12_fill (I : tq_I) (x y u v t : Int32) (w h s : Nat) {cz : Nat} (hc : cz ≠ 117 ∧ cz ≠ 118) (jz : Nat) : I_X12_fill I x y u v t w h s cz jz = I cz jz := by
  obtain ⟨hc0, hc1⟩ := hc
  simp only [I_X12_fill]
  (repeat' split) <;> simp (disch := first | assumption | (simp only [ne_eq] at *; simp [*])) [tq_u, tq_cp, hc0, hc1, fr_X12_touches, fr_ta1, fr_X12_touchesAll, fr_cps1, fr_X12_copies, fr_sav, fr_bg1, fr_bg2, fr_X12_begins, fr_ly1, fr_X12_lays, fr_bgn1, fr_X12_begin, fr_X12_setCorner, fr_fi1]
