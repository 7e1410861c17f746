/-! what is drawn has sound codes; painting -/
theorem tm_isrank {I : tq_I} {r : Nat} (h : ¬ r_X7_isRankOfCorner I r = 0) : ∃ i, i < 4 ∧ I 103 i = nI r := by
  have key : ∀ n i, i + n = 4 → ¬ tq_sr (f_rk1 I r) n i (nI 0) = 0 → ∃ i, i < 4 ∧ I 103 i = nI r := by
    intro n
    induction n with
    | zero => intro i _ h; exact absurd rfl h
    | succ n ih =>
      intro i hi h
      by_cases e : I 103 i = nI r
      · exact ⟨i, by omega, e⟩
      · have hf : f_rk1 I r i = none := by unfold f_rk1; rw [if_neg e]
        rw [tq_sr_none hf] at h
        exact ih (i + 1) (by omega) h
  exact key 4 0 rfl h
theorem tm_mask1 {I : tq_I} {r : Nat} (h : ∃ i, i < 4 ∧ I 103 i = nI r) : 1 ≤ (r_X7_maskFrom I r).toInt := by
  obtain ⟨i, hi, e⟩ := h
  have hn : ¬ I 103 i < nI r := by rw [e]; exact Int32.lt_irrefl
  simp only [r_X7_maskFrom, tq_it, f_mf1]
  rcases (show i = 0 ∨ i = 1 ∨ i = 2 ∨ i = 3 by omega) with rfl | rfl | rfl | rfl
  · rw [if_neg hn]; split <;> split <;> split <;> decide
  · rw [if_neg hn]; split <;> split <;> split <;> decide
  · rw [if_neg hn]; split <;> split <;> split <;> decide
  · rw [if_neg hn]; split <;> split <;> split <;> decide
theorem tm_mf_cong {I K : tq_I} {r : Nat} (h : ∀ j, K 103 j = I 103 j) : r_X7_maskFrom K r = r_X7_maskFrom I r := by
  simp only [r_X7_maskFrom, tq_it, f_mf1, h]
def tm_dl1 (a : tq_I) : Prop := ∀ k, k < tq_N (a 102 3) → 1 ≤ (a 105 k).toInt
theorem tm_dl1_step {x y i : Nat} {a : tq_I} (hi : i < 6) (h0 : tq_dlP a) (h : tm_dl1 a) : tm_dl1 (f_dl2 x y i a) := by
  unfold f_dl2
  split
  · exact h
  · rename_i hr
    split
    · exact h
    · rename_i h4
      have hlt : (a 102 3).toInt < 4 := by simp (disch := omega) only [Int32.le_iff_toInt_le, nI_toInt] at h4; omega
      obtain ⟨e1, e2⟩ := tq_incr (m := 4) h0.1 (by omega) (by decide)
      have hm : 1 ≤ (r_X7_maskFrom (tq_u a 104 (tq_N (a 102 3)) (a 7 i)) i).toInt := by
        rw [tm_mf_cong (I := a) (fun j => tq_u_cell (by decide))]
        exact tm_mask1 (tm_isrank hr)
      intro k hk
      rw [tq_u_same, tq_u_cell (by decide), tq_u_cell (by decide), e2] at hk
      rw [tq_u_cell (by decide)]
      by_cases hkk : k = tq_N (a 102 3)
      · rw [hkk, tq_u_same]; exact hm
      · rw [tq_u_slot hkk, tq_u_cell (by decide)]
        exact h k (by omega)
theorem tm_dl1_draw {x y : Nat} {I : tq_I} (h7 : tq_le5 (I 7)) : tm_dl1 (I_X7_drawLayers I x y) := by
  refine (tq_itB (fun a => tq_dlP a ∧ tm_dl1 a) 6 (fun i a hi ha => ⟨tq_dlP_step hi ha.1, tm_dl1_step hi ha.1 ha.2⟩) 6 0 _ (by omega) ⟨?_, ?_⟩).2
  · refine ⟨by rw [tq_u_same]; decide, by rw [tq_u_same]; decide, fun k hk => by rw [tq_u_cell (by decide), fr_dl1 _ _ (by decide)]; exact h7 k hk, fun k hk => ?_⟩
    rw [tq_u_same, tq_N_nI (by decide)] at hk
    exact absurd hk (Nat.not_lt_zero k)
  · intro k hk
    rw [tq_u_same, tq_N_nI (by decide)] at hk
    exact absurd hk (Nat.not_lt_zero k)
theorem tm_drawI {x y : Nat} {I : tq_I} (h7 : tq_le5 (I 7)) (hr : tm_rul I) : tm_dc (I_X7_draw I x y) := by
  have h4 := tq_dl4 (x := x) (y := y) h7
  have hl := tm_dl1_draw (x := x) (y := y) h7
  generalize hc : tq_N (I_X7_drawLayers I x y 102 3) = c at h4
  have h0 := tq_drP_0 (x := x) (y := y) h7
  rw [hc] at h0
  have fin := tq_itB (f := f_dr1 x y c) (fun a => tq_drP c a ∧ (∀ k, k < c → 1 ≤ (a 105 k).toInt) ∧ tm_dc a ∧ tm_rul a) c (fun i a hi ha => by
    obtain ⟨g1, g2, g3, g4⟩ := ha
    have hq := g1.2.2 i hi
    simp only [f_dr1]
    refine ⟨tq_drP_step g1, fun k hk => ?_, tm_dpI (tq_N5 hq.1) (by have := g2 i hi; unfold tq_N; omega) (by have := tq_N15 hq.2; omega) g4 g3, g4.cong (fun j => fr_X7_drawPieces _ _ _ _ _ (by decide) j) (fun j => fr_X7_drawPieces _ _ _ _ _ (by decide) j) (fun j => fr_X7_drawPieces _ _ _ _ _ (by decide) j)⟩
    rw [fr_X7_drawPieces _ _ _ _ _ (by decide)]
    exact g2 k hk) c 0 (tq_u (I_X7_drawLayers I x y) 102 5 (nI 0)) (by omega) ⟨h0, fun k hk => by rw [tq_u_cell (by decide)]; exact hl k (by omega), ⟨by rw [tq_u_same]; decide, fun k hk => by rw [tq_u_same, tq_N_nI (by decide)] at hk; exact absurd hk (Nat.not_lt_zero k)⟩, hr.cong (fun j => by rw [tq_u_cell (by decide), fr_X7_drawLayers _ _ _ (by decide)]) (fun j => by rw [tq_u_cell (by decide), fr_X7_drawLayers _ _ _ (by decide)]) (fun j => by rw [tq_u_cell (by decide), fr_X7_drawLayers _ _ _ (by decide)])⟩
  unfold I_X7_draw
  rw [hc]
  obtain ⟨-, -, ⟨q1, q2⟩, -⟩ := fin
  refine ⟨by rw [tq_u_slot (by decide)]; exact q1, fun k hk => ?_⟩
  rw [tq_u_slot (by decide)] at hk
  rw [tq_u_cell (by decide)]
  exact q2 k hk
theorem tm_take13 {I : tq_I} {c p j : Nat} : I_X1_take I c p 13 j = if j = c then I 102 5 else I 13 j := by
  unfold I_X1_take
  simp [tq_cp, tq_u]
theorem tm_take14 {I : tq_I} {c p j : Nat} : I_X1_take I c p 14 j = if c * 7 ≤ j ∧ j < c * 7 + p then I 106 (j - c * 7) else I 14 j := by
  unfold I_X1_take
  simp [tq_cp, tq_u]
theorem tm_take15 {I : tq_I} {c p j : Nat} : I_X1_take I c p 15 j = if j = c then I 102 6 else I 15 j := by
  unfold I_X1_take
  simp [tq_cp, tq_u]
/-- a cell painted anew keeps all sound -/
theorem tq_ok.taken {I : tq_I} {w h o c L : Nat} (k : tq_ok I w h o c L) (hd : tm_dc I) {cl : Nat} (hcl : cl < 100) : tq_ok (I_X1_take I cl (tq_N (I 102 5))) w h o c L := by
  have e : ∀ cz, cz ≠ 13 ∧ cz ≠ 14 ∧ cz ≠ 15 → I_X1_take I cl (tq_N (I 102 5)) cz = I cz := fun cz hz => funext fun jz => fr_X1_take _ _ _ hz jz
  refine ⟨?_, ?_, ?_, fun d hd2 => ?_, ⟨?_, ?_, k.o5, k.c5, fun m hm => ?_⟩, ?_, ?_, ?_⟩
  · rw [e 2 (by decide)]; exact k.1
  · rw [e 3 (by decide)]; exact k.2.1
  · rw [e 6 (by decide), e 7 (by decide), e 5 (by decide)]; exact k.2.2.1
  · rw [tm_take13]
    by_cases hdc : d = cl
    · rw [if_pos hdc]
      subst hdc
      refine ⟨hd.1, fun q hq => ?_⟩
      rw [tm_take14, if_pos (by omega), show d * 7 + q - d * 7 = q by omega]
      exact hd.2 q hq
    · rw [if_neg hdc]
      have h1 := k.cv d hd2
      refine ⟨h1.1, fun q hq => ?_⟩
      have h7 := tq_N7 h1.1
      have h8 := tq_N7 hd.1
      rw [tm_take14, if_neg (by omega)]
      exact h1.2 q hq
  · rw [e 17 (by decide)]; exact k.ho
  · rw [e 17 (by decide)]; exact k.hc
  · rw [e (23 + 16 * m) (by omega)]
    exact k.hbd m hm
  · rw [e 101 (by decide), e 99 (by decide)]; exact k.2.2.2.2.2.1
  · rw [e 111 (by decide)]; exact k.2.2.2.2.2.2.1
  · rw [e 113 (by decide)]; exact k.2.2.2.2.2.2.2
def r_X11_renew (I : tq_I) (x y : Nat) (w h o c L : Nat) : Int32 := (if (r_X1_shows (I_X7_draw I x y) (y * 10 + x) (tq_N (I_X7_draw I x y 102 5))) = 0 then (nI 1) else (nI 0))
def I_X11_renew (I : tq_I) (x y : Nat) (w h o c L : Nat) : tq_I := (if (r_X1_shows (I_X7_draw I x y) (y * 10 + x) (tq_N (I_X7_draw I x y 102 5))) = 0 then (tq_u (I_X1_take (I_X7_draw I x y) (y * 10 + x) (tq_N (I_X7_draw I x y 102 5))) 16 (y * 10 + x) (nI 0)) else (tq_u (I_X1_take (I_X7_draw I x y) (y * 10 + x) (tq_N (I_X7_draw I x y 102 5))) 16 (y * 10 + x) (nI 0)))
set_option maxRecDepth 20000 in
theorem c_X11_renew (g : tq_G) (rest : List tq_S) (I : tq_I) (J : Int64) (x y : Nat) (w h o c L : Nat) (k : tq_ok I w h o c L) (hx : x < w) (hy : y < h) : CT g mX11_renew 6 0 0 [.ref 0, .int (nI x), .int (nI y)] (tq_SC ++ rest) tq_RR I J (tq_ret (tq_SC ++ rest) tq_RR (some (.int (r_X11_renew I x y w h o c L))) (I_X11_renew I x y w h o c L) J) := by
  refine CT.ret kX11_renew (Nat.le_of_ble_eq_true rfl) (fun x0 C hR hZ => ?_)
  refine EV_en (lv' := [some (.ref 0), some (.int (nI x)), some (.int (nI y)), none, none]) 2 rfl ?_
  have hw10 := k.w10
  have hh10 := k.h10
  refine EV_blk (own := 11) C rfl [(.iload_n 1, 0, 0, 0, 0), (.iload_n 2, 0, 0, 0, 0)] (pc' := 2) (by decide +kernel) (lv' := [some (.ref 0), some (.int (nI x)), some (.int (nI y)), none, none]) (st' := [.int (nI y), .int (nI x)]) (I' := I) (J' := J) rfl ?_
  refine EV_cS (own := 11) (idx := 243) (μ' := mX11_cellIndex) (av := [.int (nI x), .int (nI y)]) (rest := []) C hR rfl (Or.inl ⟨719, by decide⟩) kX11_cellIndex sX11_cellIndex (c_X11_cellIndex g rest I J x y ) (by decide +kernel) rfl (by decide) (Nat.le_of_ble_eq_true rfl) rfl ⟨Nat.zero_le _, Nat.zero_le _⟩ ?_
  refine EV_blk (own := 11) C rfl [(.istore_n 3, 0, 0, 0, 0), (.aload_n 0, 0, 0, 0, 0), (.getfield 33, 11, 3, 371, 0), (.aload_n 0, 0, 0, 0, 0), (.getfield 12, 11, 0, 368, 0), (.iload_n 1, 0, 0, 0, 0), (.iload_n 2, 0, 0, 0, 0)] (pc' := 16) (by decide +kernel) (lv' := [some (.ref 0), some (.int (nI x)), some (.int (nI y)), some (.int (nI (y * 10 + x))), none]) (st' := [.int (nI y), .int (nI x), .ref 1, .ref 102]) (I' := I) (J' := J) rfl ?_
  refine EV_cV (own := 11) (idx := 212) (μ' := mX7_draw) (b := 102) (cb := 7) (av := [.ref 1, .int (nI x), .int (nI y)]) (rest := []) C hR rfl (Or.inl ⟨664, by decide⟩) kX7_draw sX7_draw (c_X7_draw g rest I J x y (by omega) (by omega) (k.hT (by omega) (by omega)) k.r7 k.wi k.hi k.bd) rfl rfl (by decide +kernel) rfl (by decide) (Nat.le_of_ble_eq_true rfl) rfl ⟨Nat.zero_le _, Nat.zero_le _⟩ ?_
  refine EV_blk (own := 11) C rfl [(.aload_n 0, 0, 0, 0, 0), (.getfield 12, 11, 0, 368, 0), (.getfield 234, 8, 2, 199, 0), (.iload_n 3, 0, 0, 0, 0), (.aload_n 0, 0, 0, 0, 0), (.getfield 33, 11, 3, 371, 0)] (pc' := 31) (by decide +kernel) (lv' := [some (.ref 0), some (.int (nI x)), some (.int (nI y)), some (.int (nI (y * 10 + x))), none]) (st' := [.ref 102, .int (nI (y * 10 + x)), .ref 12]) (I' := (I_X7_draw I x y)) (J' := J) rfl ?_
  refine EV_cV (own := 11) (idx := 318) (μ' := mX1_shows) (b := 12) (cb := 1) (av := [.int (nI (y * 10 + x)), .ref 102]) (rest := []) C hR rfl (Or.inl ⟨728, by decide⟩) kX1_shows sX1_shows (c_X1_shows g rest (I_X7_draw I x y) J (y * 10 + x) (tq_N (I_X7_draw I x y 102 5)) (by omega) (tq_nIN (tq_draw_ok (x := x) (y := y) k.r7).1.1) (tq_N7 (tq_draw_ok (x := x) (y := y) k.r7).1)) rfl rfl (by decide +kernel) rfl (by decide) (Nat.le_of_ble_eq_true rfl) rfl ⟨Nat.zero_le _, Nat.zero_le _⟩ ?_
  refine EV_if_ne (off := 7) (tgt := 41) C (by decide +kernel) (by decide) (fun h1 => ?_) (fun h1 => ?_)
  · skip
    refine EV_blk (own := 11) C rfl [(.iconst 0, 0, 0, 0, (nI 0)), (.istore 4, 0, 0, 0, 0), (.aload_n 0, 0, 0, 0, 0), (.getfield 12, 11, 0, 368, 0), (.getfield 234, 8, 2, 199, 0), (.iload_n 3, 0, 0, 0, 0), (.aload_n 0, 0, 0, 0, 0), (.getfield 33, 11, 3, 371, 0)] (pc' := 56) (by decide +kernel) (lv' := [some (.ref 0), some (.int (nI x)), some (.int (nI y)), some (.int (nI (y * 10 + x))), some (.int (nI 0))]) (st' := [.ref 102, .int (nI (y * 10 + x)), .ref 12]) (I' := (I_X7_draw I x y)) (J' := J) rfl ?_
    refine EV_cV (own := 11) (idx := 322) (μ' := mX1_take) (b := 12) (cb := 1) (av := [.int (nI (y * 10 + x)), .ref 102]) (rest := []) C hR rfl (Or.inl ⟨752, by decide⟩) kX1_take sX1_take (c_X1_take g rest (I_X7_draw I x y) J (y * 10 + x) (tq_N (I_X7_draw I x y 102 5)) (by omega) (tq_nIN (tq_draw_ok (x := x) (y := y) k.r7).1.1) (tq_N7 (tq_draw_ok (x := x) (y := y) k.r7).1)) rfl rfl (by decide +kernel) rfl (by decide) (Nat.le_of_ble_eq_true rfl) rfl ⟨Nat.zero_le _, Nat.zero_le _⟩ ?_
    refine EV_blk (own := 11) C rfl [(.aload_n 0, 0, 0, 0, 0), (.getfield 12, 11, 0, 368, 0), (.getfield 234, 8, 2, 199, 0), (.getfield 249, 1, 3, 180, 0), (.iload_n 3, 0, 0, 0, 0), (.iconst 0, 0, 0, 0, (nI 0))] (pc' := 71) (by decide +kernel) (lv' := [some (.ref 0), some (.int (nI x)), some (.int (nI y)), some (.int (nI (y * 10 + x))), some (.int (nI 0))]) (st' := [.int (nI 0), .int (nI (y * 10 + x)), .ref 16]) (I' := (I_X1_take (I_X7_draw I x y) (y * 10 + x) (tq_N (I_X7_draw I x y 102 5)))) (J' := J) rfl ?_
    refine EV_iast (j := (y * 10 + x)) C (by decide +kernel) rfl (nI_toInt (by omega)) (by omega) ?_
    refine EV_blk (own := 11) C rfl [(.iload 4, 0, 0, 0, 0)] (pc' := 74) (by decide +kernel) (lv' := [some (.ref 0), some (.int (nI x)), some (.int (nI y)), some (.int (nI (y * 10 + x))), some (.int (nI 0))]) (st' := [.int (nI 0)]) (I' := (tq_u (I_X1_take (I_X7_draw I x y) (y * 10 + x) (tq_N (I_X7_draw I x y 102 5))) 16 (y * 10 + x) (nI 0))) (J' := J) rfl ?_
    refine EV_if_eq (off := 7) (tgt := 81) C (by decide +kernel) (by decide) (fun h2 => ?_) (fun h2 => ?_)
    · skip
      refine EV_blk (own := 11) C rfl [(.iconst 0, 0, 0, 0, (nI 0))] (pc' := 82) (by decide +kernel) (lv' := [some (.ref 0), some (.int (nI x)), some (.int (nI y)), some (.int (nI (y * 10 + x))), some (.int (nI 0))]) (st' := [.int (nI 0)]) (I' := (tq_u (I_X1_take (I_X7_draw I x y) (y * 10 + x) (tq_N (I_X7_draw I x y 102 5))) 16 (y * 10 + x) (nI 0))) (J' := J) rfl ?_
      exact EV_iret C hZ rfl (by decide +kernel) (Nat.le_refl _) (Nat.le_refl _) ⟨tq_some (by simp only [r_X11_renew, if_neg h1, if_pos h2]), rfl, rfl, by simp only [I_X11_renew, if_neg h1, if_pos h2], rfl⟩
    · skip
      exact absurd (by decide) h2
  · skip
    refine EV_blk (own := 11) C rfl [(.iconst 1, 0, 0, 0, (nI 1)), (.goto 4, 0, 0, 0, 0), (.istore 4, 0, 0, 0, 0), (.aload_n 0, 0, 0, 0, 0), (.getfield 12, 11, 0, 368, 0), (.getfield 234, 8, 2, 199, 0), (.iload_n 3, 0, 0, 0, 0), (.aload_n 0, 0, 0, 0, 0), (.getfield 33, 11, 3, 371, 0)] (pc' := 56) (by decide +kernel) (lv' := [some (.ref 0), some (.int (nI x)), some (.int (nI y)), some (.int (nI (y * 10 + x))), some (.int (nI 1))]) (st' := [.ref 102, .int (nI (y * 10 + x)), .ref 12]) (I' := (I_X7_draw I x y)) (J' := J) rfl ?_
    refine EV_cV (own := 11) (idx := 322) (μ' := mX1_take) (b := 12) (cb := 1) (av := [.int (nI (y * 10 + x)), .ref 102]) (rest := []) C hR rfl (Or.inl ⟨752, by decide⟩) kX1_take sX1_take (c_X1_take g rest (I_X7_draw I x y) J (y * 10 + x) (tq_N (I_X7_draw I x y 102 5)) (by omega) (tq_nIN (tq_draw_ok (x := x) (y := y) k.r7).1.1) (tq_N7 (tq_draw_ok (x := x) (y := y) k.r7).1)) rfl rfl (by decide +kernel) rfl (by decide) (Nat.le_of_ble_eq_true rfl) rfl ⟨Nat.zero_le _, Nat.zero_le _⟩ ?_
    refine EV_blk (own := 11) C rfl [(.aload_n 0, 0, 0, 0, 0), (.getfield 12, 11, 0, 368, 0), (.getfield 234, 8, 2, 199, 0), (.getfield 249, 1, 3, 180, 0), (.iload_n 3, 0, 0, 0, 0), (.iconst 0, 0, 0, 0, (nI 0))] (pc' := 71) (by decide +kernel) (lv' := [some (.ref 0), some (.int (nI x)), some (.int (nI y)), some (.int (nI (y * 10 + x))), some (.int (nI 1))]) (st' := [.int (nI 0), .int (nI (y * 10 + x)), .ref 16]) (I' := (I_X1_take (I_X7_draw I x y) (y * 10 + x) (tq_N (I_X7_draw I x y 102 5)))) (J' := J) rfl ?_
    refine EV_iast (j := (y * 10 + x)) C (by decide +kernel) rfl (nI_toInt (by omega)) (by omega) ?_
    refine EV_blk (own := 11) C rfl [(.iload 4, 0, 0, 0, 0)] (pc' := 74) (by decide +kernel) (lv' := [some (.ref 0), some (.int (nI x)), some (.int (nI y)), some (.int (nI (y * 10 + x))), some (.int (nI 1))]) (st' := [.int (nI 1)]) (I' := (tq_u (I_X1_take (I_X7_draw I x y) (y * 10 + x) (tq_N (I_X7_draw I x y 102 5))) 16 (y * 10 + x) (nI 0))) (J' := J) rfl ?_
    refine EV_if_eq (off := 7) (tgt := 81) C (by decide +kernel) (by decide) (fun h3 => ?_) (fun h3 => ?_)
    · skip
      exact absurd h3 (by decide)
    · skip
      refine EV_blk (own := 11) C rfl [(.iconst 1, 0, 0, 0, (nI 1)), (.goto 4, 0, 0, 0, 0)] (pc' := 82) (by decide +kernel) (lv' := [some (.ref 0), some (.int (nI x)), some (.int (nI y)), some (.int (nI (y * 10 + x))), some (.int (nI 1))]) (st' := [.int (nI 1)]) (I' := (tq_u (I_X1_take (I_X7_draw I x y) (y * 10 + x) (tq_N (I_X7_draw I x y 102 5))) 16 (y * 10 + x) (nI 0))) (J' := J) rfl ?_
      exact EV_iret C hZ rfl (by decide +kernel) (Nat.le_refl _) (Nat.le_refl _) ⟨tq_some (by simp only [r_X11_renew, if_pos h1, if_neg h3]), rfl, rfl, by simp only [I_X11_renew, if_pos h1, if_neg h3], rfl⟩
theorem fr_X11_renew (I : tq_I) (x y : Nat) (w h o c L : Nat) {cz : Nat} (hc : cz ≠ 13 ∧ cz ≠ 14 ∧ cz ≠ 15 ∧ cz ≠ 16 ∧ cz ≠ 102 ∧ cz ≠ 103 ∧ cz ≠ 104 ∧ cz ≠ 105 ∧ cz ≠ 106) (jz : Nat) : I_X11_renew I x y w h o c L cz jz = I cz jz := by
  obtain ⟨hc0, hc1, hc2, hc3, hc4, hc5, hc6, hc7, hc8⟩ := hc
  simp only [I_X11_renew]
  (repeat' split) <;> simp (disch := first | assumption | (simp only [ne_eq] at *; simp [*])) [tq_u, tq_cp, hc0, hc1, hc2, hc3, hc4, hc5, hc6, hc7, hc8, fr_tb1, fr_tb2, fr_X8_touchBlock, fr_X8_touchAll, fr_X8_changeCorner, fr_X8_changePath, fr_cb1, fr_cb2, fr_X8_changeBlock, fr_wipe1, fr_X1_wipe, fr_sm1, fr_sm2, fr_X8_startMap, fr_X6_place, fr_mt1, fr_mt2, fr_X6_moveTo, fr_ch2, fr_X10_choose, fr_X1_take, fr_fgt1, fr_X5_forget, fr_X5_meet, fr_gat1, fr_X5_gather, fr_dl1, fr_dl2, fr_X7_drawLayers, fr_dp1, fr_X7_drawPieces, fr_dr1, fr_X7_draw, fr_X9_add, fr_ac1, fr_X9_addCell, fr_tk0, fr_tk1, fr_tk2, fr_X9_take, fr_append111, fr_append113, fr_X4_acceptRowEnd, fr_X4_acceptNumber, fr_al1, fr_X4_acceptLetter, fr_X4_accept, fr_X11_touchAllIf, fr_X11_staleAt, fr_st1, fr_st2, fr_X11_writeItem, fr_wr1, fr_X11_writeRow, fr_wr2, fr_X11_write, fr_rg1, fr_rg2, fr_X11_regions, fr_fl1, fr_ra1, fr_ra2]
theorem tm_renewI {I : tq_I} {x y w h o c L : Nat} : I_X11_renew I x y w h o c L = tq_u (I_X1_take (I_X7_draw I x y) (y * 10 + x) (tq_N (I_X7_draw I x y 102 5))) 16 (y * 10 + x) (nI 0) := by
  unfold I_X11_renew
  (repeat' split) <;> rfl
theorem tq_ok.renew {I : tq_I} {w h o c L : Nat} (k : tq_ok I w h o c L) (hr : tm_rul I) {x y : Nat} (hx : x < w) (hy : y < h) : tq_ok (I_X11_renew I x y w h o c L) w h o c L := by
  have h1 := k.w10
  have h2 := k.h10
  rw [tm_renewI]
  refine ((k.draw x y).taken (tm_drawI k.r7 hr) (cl := y * 10 + x) (by omega)).cong (fun cz hz jz => tq_u_cell (fun e => ?_))
  rw [e] at hz
  exact absurd hz (by decide)
theorem tm_rul.renew {I : tq_I} {x y w h o c L : Nat} (hr : tm_rul I) : tm_rul (I_X11_renew I x y w h o c L) := hr.cong (fun j => fr_X11_renew _ _ _ _ _ _ _ _ (by decide) j) (fun j => fr_X11_renew _ _ _ _ _ _ _ _ (by decide) j) (fun j => fr_X11_renew _ _ _ _ _ _ _ _ (by decide) j)
theorem tm_rul.rec {I : tq_I} {o c : Nat} (hr : tm_rul I) : tm_rul (tq_rec I o c) := hr.cong (fun j => fr_rec (by decide) j) (fun j => fr_rec (by decide) j) (fun j => fr_rec (by decide) j)
def f_pa1 (y : Nat) (w h o c L : Nat) (i : Nat) (a : Int32 × tq_I) : Int32 × tq_I := (if (a.2 16 (y * 10 + i)) = (nI 1) then ((a.1 + (r_X11_renew a.2 i y w h o c L)), (I_X11_renew a.2 i y w h o c L)) else (a.1, a.2))
set_option maxRecDepth 20000 in
theorem lp_pa1 {g : tq_G} {rest : List tq_S} {x0 : tq_X} (C : tq_C g mX11_paint x0) (hR : tq_ht x0 7 0 0) (J : Int64) (y : Nat) (w h o c L : Nat) (hw10 : w ≤ 10) (hy : y < h) (hh10 : h ≤ 10) : ∀ (n i : Nat) (a : Int32 × tq_I), i + n = w → (tq_ok a.2 w h o c L ∧ tm_rul a.2) → EV g mX11_paint x0 0 0 80 [some (.ref 0), some (.int ((tq_it (f_pa1 y w h o c L) n i a).1)), some (.int (nI y)), some (.int (nI (i + n)))] [] (tq_SC ++ rest) tq_RR ((tq_it (f_pa1 y w h o c L) n i a).2) J → EV g mX11_paint x0 0 0 31 [some (.ref 0), some (.int a.1), some (.int (nI y)), some (.int (nI i))] [] (tq_SC ++ rest) tq_RR a.2 J := by
  intro n
  induction n with
  | zero =>
    intro i a hi hI kk
    rw [Nat.add_zero] at kk
    refine EV_blk (own := 11) C rfl [(.iload_n 3, 0, 0, 0, 0), (.aload_n 0, 0, 0, 0, 0), (.getfield 12, 11, 0, 368, 0), (.getfield 77, 8, 0, 193, 0), (.getfield 81, 3, 0, 98, 0)] (pc' := 42) (by decide +kernel) (lv' := [some (.ref 0), some (.int a.1), some (.int (nI y)), some (.int (nI i))]) (st' := [.int (a.2 2 0), .int (nI i)]) (I' := a.2) (J' := J) rfl ?_
    refine EV_icmp_ge (off := 38) (tgt := 80) C (by decide +kernel) (by decide) (fun h1 => ?_) (fun h1 => ?_)
    · skip
      exact kk
    · skip
      exact absurd h1 (by simp (disch := omega) only [Int32.lt_iff_toInt_lt, Int32.le_iff_toInt_le, Int32.toInt_zero, nI_toInt, tq_m1, hI.1.hw]; omega)
  | succ n ih =>
    intro i a hi hI kk
    rw [show i + (n + 1) = (i + 1) + n by omega] at kk
    refine EV_blk (own := 11) C rfl [(.iload_n 3, 0, 0, 0, 0), (.aload_n 0, 0, 0, 0, 0), (.getfield 12, 11, 0, 368, 0), (.getfield 77, 8, 0, 193, 0), (.getfield 81, 3, 0, 98, 0)] (pc' := 42) (by decide +kernel) (lv' := [some (.ref 0), some (.int a.1), some (.int (nI y)), some (.int (nI i))]) (st' := [.int (a.2 2 0), .int (nI i)]) (I' := a.2) (J' := J) rfl ?_
    refine EV_icmp_ge (off := 38) (tgt := 80) C (by decide +kernel) (by decide) (fun h1 => ?_) (fun h1 => ?_)
    · skip
      exact absurd h1 (by simp (disch := omega) only [Int32.lt_iff_toInt_lt, Int32.le_iff_toInt_le, Int32.toInt_zero, nI_toInt, tq_m1, hI.1.hw]; omega)
    · skip
      refine EV_blk (own := 11) C rfl [(.aload_n 0, 0, 0, 0, 0), (.getfield 12, 11, 0, 368, 0), (.getfield 234, 8, 2, 199, 0), (.getfield 249, 1, 3, 180, 0), (.iload_n 3, 0, 0, 0, 0), (.iload_n 2, 0, 0, 0, 0)] (pc' := 57) (by decide +kernel) (lv' := [some (.ref 0), some (.int a.1), some (.int (nI y)), some (.int (nI i))]) (st' := [.int (nI y), .int (nI i), .ref 16]) (I' := a.2) (J' := J) rfl ?_
      refine EV_cS (own := 11) (idx := 243) (μ' := mX11_cellIndex) (av := [.int (nI i), .int (nI y)]) (rest := [.ref 16]) C hR rfl (Or.inl ⟨719, by decide⟩) kX11_cellIndex sX11_cellIndex (c_X11_cellIndex g rest a.2 J i y ) (by decide +kernel) rfl (by decide) (Nat.le_of_ble_eq_true rfl) rfl ⟨Nat.zero_le _, Nat.zero_le _⟩ ?_
      refine EV_iald (j := (y * 10 + i)) C (by decide +kernel) rfl (nI_toInt (by omega)) (by omega) ?_
      refine EV_blk (own := 11) C rfl [(.iconst 1, 0, 0, 0, (nI 1))] (pc' := 62) (by decide +kernel) (lv' := [some (.ref 0), some (.int a.1), some (.int (nI y)), some (.int (nI i))]) (st' := [.int (nI 1), .int (a.2 16 (y * 10 + i))]) (I' := a.2) (J' := J) rfl ?_
      refine EV_icmp_ne (off := 12) (tgt := 74) C (by decide +kernel) (by decide) (fun h2 => ?_) (fun h2 => ?_)
      · skip
        refine EV_blk (own := 11) C rfl [(.iinc 3 1, 0, 0, 0, (nI 1)), (.goto (-46), 0, 0, 0, 0)] (pc' := 31) (by decide +kernel) (lv' := [some (.ref 0), some (.int a.1), some (.int (nI y)), some (.int ((nI i) + (nI 1)))]) (st' := []) (I' := a.2) (J' := J) rfl ?_
        rw [show ((nI i) + (nI 1)) = (nI (i + 1)) from by simp (disch := omega) only [nI_add, tq_mul] <;> exact congrArg nI (by omega)]
        rw [tq_its, show (f_pa1 y w h o c L) i a = (a.1, a.2) from by simp only [f_pa1, if_neg h1, if_neg h2]] at kk
        have ihx := ih (i + 1) (a.1, a.2) (by omega)
        dsimp only at ihx
        exact ihx hI kk
      · skip
        refine EV_blk (own := 11) C rfl [(.iload_n 1, 0, 0, 0, 0), (.aload_n 0, 0, 0, 0, 0), (.iload_n 3, 0, 0, 0, 0), (.iload_n 2, 0, 0, 0, 0)] (pc' := 69) (by decide +kernel) (lv' := [some (.ref 0), some (.int a.1), some (.int (nI y)), some (.int (nI i))]) (st' := [.int (nI y), .int (nI i), .ref 0, .int a.1]) (I' := a.2) (J' := J) rfl ?_
        refine EV_cV (own := 11) (idx := 252) (μ' := mX11_renew) (b := 0) (cb := 11) (av := [.int (nI i), .int (nI y)]) (rest := [.int a.1]) C hR rfl (Or.inl ⟨748, by decide⟩) kX11_renew sX11_renew (c_X11_renew g rest a.2 J i y w h o c L hI.1 (by omega) (by omega)) rfl rfl (by decide +kernel) rfl (by decide) (Nat.le_of_ble_eq_true rfl) rfl ⟨Nat.zero_le _, Nat.zero_le _⟩ ?_
        refine EV_blk (own := 11) C rfl [(.iadd, 0, 0, 0, 0), (.istore_n 1, 0, 0, 0, 0), (.iinc 3 1, 0, 0, 0, (nI 1)), (.goto (-46), 0, 0, 0, 0)] (pc' := 31) (by decide +kernel) (lv' := [some (.ref 0), some (.int (a.1 + (r_X11_renew a.2 i y w h o c L))), some (.int (nI y)), some (.int ((nI i) + (nI 1)))]) (st' := []) (I' := (I_X11_renew a.2 i y w h o c L)) (J' := J) rfl ?_
        rw [show ((nI i) + (nI 1)) = (nI (i + 1)) from by simp (disch := omega) only [nI_add, tq_mul] <;> exact congrArg nI (by omega)]
        rw [tq_its, show (f_pa1 y w h o c L) i a = ((a.1 + (r_X11_renew a.2 i y w h o c L)), (I_X11_renew a.2 i y w h o c L)) from by simp only [f_pa1, if_neg h1, if_pos h2]] at kk
        have ihx := ih (i + 1) ((a.1 + (r_X11_renew a.2 i y w h o c L)), (I_X11_renew a.2 i y w h o c L)) (by omega)
        dsimp only at ihx
        exact ihx ⟨tq_ok.renew hI.1 hI.2 (by omega) (by omega), tm_rul.renew hI.2⟩ kk
theorem fr_pa1 (y : Nat) (w h o c L : Nat) {cz : Nat} (hc : cz ≠ 13 ∧ cz ≠ 14 ∧ cz ≠ 15 ∧ cz ≠ 16 ∧ cz ≠ 102 ∧ cz ≠ 103 ∧ cz ≠ 104 ∧ cz ≠ 105 ∧ cz ≠ 106) (n i : Nat) (a : Int32 × tq_I) (jz : Nat) : (tq_it (f_pa1 y w h o c L) n i a).2 cz jz = a.2 cz jz := by
  obtain ⟨hc0, hc1, hc2, hc3, hc4, hc5, hc6, hc7, hc8⟩ := hc
  refine tq_itF2 (fun i a j => ?_) n i a jz
  simp only [f_pa1]
  (repeat' split) <;> simp (disch := first | assumption | (simp only [ne_eq] at *; simp [*])) [tq_u, tq_cp, hc0, hc1, hc2, hc3, hc4, hc5, hc6, hc7, hc8, fr_tb1, fr_tb2, fr_X8_touchBlock, fr_X8_touchAll, fr_X8_changeCorner, fr_X8_changePath, fr_cb1, fr_cb2, fr_X8_changeBlock, fr_wipe1, fr_X1_wipe, fr_sm1, fr_sm2, fr_X8_startMap, fr_X6_place, fr_mt1, fr_mt2, fr_X6_moveTo, fr_ch2, fr_X10_choose, fr_X1_take, fr_fgt1, fr_X5_forget, fr_X5_meet, fr_gat1, fr_X5_gather, fr_dl1, fr_dl2, fr_X7_drawLayers, fr_dp1, fr_X7_drawPieces, fr_dr1, fr_X7_draw, fr_X9_add, fr_ac1, fr_X9_addCell, fr_tk0, fr_tk1, fr_tk2, fr_X9_take, fr_append111, fr_append113, fr_X4_acceptRowEnd, fr_X4_acceptNumber, fr_al1, fr_X4_acceptLetter, fr_X4_accept, fr_X11_touchAllIf, fr_X11_staleAt, fr_st1, fr_st2, fr_X11_writeItem, fr_wr1, fr_X11_writeRow, fr_wr2, fr_X11_write, fr_rg1, fr_rg2, fr_X11_regions, fr_fl1, fr_ra1, fr_ra2, fr_X11_renew]
theorem tq_ok.pa1 {a : Int32 × tq_I} {y w h o c L : Nat} (hy : y < h) (k : tq_ok a.2 w h o c L ∧ tm_rul a.2) (n i : Nat) (hi : i + n ≤ w) : tq_ok (tq_it (f_pa1 y w h o c L) n i a).2 w h o c L ∧ tm_rul (tq_it (f_pa1 y w h o c L) n i a).2 := tq_itB (fun b => tq_ok b.2 w h o c L ∧ tm_rul b.2) w (fun i b hi hb => by
  unfold f_pa1
  split
  · dsimp only
    exact ⟨tq_ok.renew hb.1 hb.2 hi hy, tm_rul.renew hb.2⟩
  · exact hb) n i a hi k
def f_pa2 (w h o c L : Nat) (i : Nat) (a : Int32 × tq_I) : Int32 × tq_I := ((tq_it (f_pa1 i w h o c L) w 0 (a.1, a.2)).1, (tq_it (f_pa1 i w h o c L) w 0 (a.1, a.2)).2)
set_option maxRecDepth 20000 in
theorem lp_pa2 {g : tq_G} {rest : List tq_S} {x0 : tq_X} (C : tq_C g mX11_paint x0) (hR : tq_ht x0 7 0 0) (J : Int64) (w h o c L : Nat) (hw10 : w ≤ 10) (hh10 : h ≤ 10) : ∀ (n i : Nat) (a : Int32 × tq_I), i + n = h → (tq_ok a.2 w h o c L ∧ tm_rul a.2) → EV g mX11_paint x0 0 0 86 [some (.ref 0), some (.int ((tq_it (f_pa2 w h o c L) n i a).1)), some (.int (nI (i + n))), none] [] (tq_SC ++ rest) tq_RR ((tq_it (f_pa2 w h o c L) n i a).2) J → EV g mX11_paint x0 0 0 15 [some (.ref 0), some (.int a.1), some (.int (nI i)), none] [] (tq_SC ++ rest) tq_RR a.2 J := by
  intro n
  induction n with
  | zero =>
    intro i a hi hI kk
    rw [Nat.add_zero] at kk
    refine EV_blk (own := 11) C rfl [(.iload_n 2, 0, 0, 0, 0), (.aload_n 0, 0, 0, 0, 0), (.getfield 12, 11, 0, 368, 0), (.getfield 77, 8, 0, 193, 0), (.getfield 87, 3, 1, 102, 0)] (pc' := 26) (by decide +kernel) (lv' := [some (.ref 0), some (.int a.1), some (.int (nI i)), none]) (st' := [.int (a.2 2 1), .int (nI i)]) (I' := a.2) (J' := J) rfl ?_
    refine EV_icmp_ge (off := 60) (tgt := 86) C (by decide +kernel) (by decide) (fun h1 => ?_) (fun h1 => ?_)
    · skip
      exact kk
    · skip
      exact absurd h1 (by simp (disch := omega) only [Int32.lt_iff_toInt_lt, Int32.le_iff_toInt_le, Int32.toInt_zero, nI_toInt, tq_m1, hI.1.hh]; omega)
  | succ n ih =>
    intro i a hi hI kk
    rw [show i + (n + 1) = (i + 1) + n by omega] at kk
    refine EV_blk (own := 11) C rfl [(.iload_n 2, 0, 0, 0, 0), (.aload_n 0, 0, 0, 0, 0), (.getfield 12, 11, 0, 368, 0), (.getfield 77, 8, 0, 193, 0), (.getfield 87, 3, 1, 102, 0)] (pc' := 26) (by decide +kernel) (lv' := [some (.ref 0), some (.int a.1), some (.int (nI i)), none]) (st' := [.int (a.2 2 1), .int (nI i)]) (I' := a.2) (J' := J) rfl ?_
    refine EV_icmp_ge (off := 60) (tgt := 86) C (by decide +kernel) (by decide) (fun h1 => ?_) (fun h1 => ?_)
    · skip
      exact absurd h1 (by simp (disch := omega) only [Int32.lt_iff_toInt_lt, Int32.le_iff_toInt_le, Int32.toInt_zero, nI_toInt, tq_m1, hI.1.hh]; omega)
    · skip
      refine EV_blk (own := 11) C rfl [(.iconst 0, 0, 0, 0, (nI 0)), (.istore_n 3, 0, 0, 0, 0)] (pc' := 31) (by decide +kernel) (lv' := [some (.ref 0), some (.int a.1), some (.int (nI i)), some (.int (nI 0))]) (st' := []) (I' := a.2) (J' := J) rfl ?_
      refine lp_pa1 C hR J i w h o c L hw10 (by omega) hh10 w 0 (a.1, a.2) (by omega) hI ?_
      refine EV_blk (own := 11) C rfl [(.iinc 2 1, 0, 0, 0, (nI 1)), (.goto (-68), 0, 0, 0, 0)] (pc' := 15) (by decide +kernel) (lv' := [some (.ref 0), some (.int ((tq_it (f_pa1 i w h o c L) w 0 (a.1, a.2)).1)), some (.int ((nI i) + (nI 1))), some (.int (nI ((0 + w))))]) (st' := []) (I' := (tq_it (f_pa1 i w h o c L) w 0 (a.1, a.2)).2) (J' := J) rfl ?_
      refine EV_fg (lv' := [some (.ref 0), some (.int ((tq_it (f_pa1 i w h o c L) w 0 (a.1, a.2)).1)), some (.int ((nI i) + (nI 1))), none]) ⟨rfl, rfl, rfl, trivial⟩ ?_
      rw [show ((nI i) + (nI 1)) = (nI (i + 1)) from by simp (disch := omega) only [nI_add, tq_mul] <;> exact congrArg nI (by omega)]
      rw [tq_its, show (f_pa2 w h o c L) i a = ((tq_it (f_pa1 i w h o c L) w 0 (a.1, a.2)).1, (tq_it (f_pa1 i w h o c L) w 0 (a.1, a.2)).2) from by simp only [f_pa2, if_neg h1]] at kk
      exact ih (i + 1) ((tq_it (f_pa1 i w h o c L) w 0 (a.1, a.2)).1, (tq_it (f_pa1 i w h o c L) w 0 (a.1, a.2)).2) (by omega) (tq_ok.pa1 (a := (a.1, a.2)) (by omega) hI _ _ (by omega)) kk
theorem fr_pa2 (w h o c L : Nat) {cz : Nat} (hc : cz ≠ 13 ∧ cz ≠ 14 ∧ cz ≠ 15 ∧ cz ≠ 16 ∧ cz ≠ 102 ∧ cz ≠ 103 ∧ cz ≠ 104 ∧ cz ≠ 105 ∧ cz ≠ 106) (n i : Nat) (a : Int32 × tq_I) (jz : Nat) : (tq_it (f_pa2 w h o c L) n i a).2 cz jz = a.2 cz jz := by
  obtain ⟨hc0, hc1, hc2, hc3, hc4, hc5, hc6, hc7, hc8⟩ := hc
  refine tq_itF2 (fun i a j => ?_) n i a jz
  simp only [f_pa2]
  (repeat' split) <;> simp (disch := first | assumption | (simp only [ne_eq] at *; simp [*])) [tq_u, tq_cp, hc0, hc1, hc2, hc3, hc4, hc5, hc6, hc7, hc8, fr_tb1, fr_tb2, fr_X8_touchBlock, fr_X8_touchAll, fr_X8_changeCorner, fr_X8_changePath, fr_cb1, fr_cb2, fr_X8_changeBlock, fr_wipe1, fr_X1_wipe, fr_sm1, fr_sm2, fr_X8_startMap, fr_X6_place, fr_mt1, fr_mt2, fr_X6_moveTo, fr_ch2, fr_X10_choose, fr_X1_take, fr_fgt1, fr_X5_forget, fr_X5_meet, fr_gat1, fr_X5_gather, fr_dl1, fr_dl2, fr_X7_drawLayers, fr_dp1, fr_X7_drawPieces, fr_dr1, fr_X7_draw, fr_X9_add, fr_ac1, fr_X9_addCell, fr_tk0, fr_tk1, fr_tk2, fr_X9_take, fr_append111, fr_append113, fr_X4_acceptRowEnd, fr_X4_acceptNumber, fr_al1, fr_X4_acceptLetter, fr_X4_accept, fr_X11_touchAllIf, fr_X11_staleAt, fr_st1, fr_st2, fr_X11_writeItem, fr_wr1, fr_X11_writeRow, fr_wr2, fr_X11_write, fr_rg1, fr_rg2, fr_X11_regions, fr_fl1, fr_ra1, fr_ra2, fr_X11_renew, fr_pa1]
def r_X11_paint (I : tq_I)  (w h o c L : Nat) : Int32 := (tq_it (f_pa2 w h (tq_o1 o c) (tq_c1n c) L) h 0 ((nI 0), (tq_rec I o c))).1
def I_X11_paint (I : tq_I)  (w h o c L : Nat) : tq_I := (tq_it (f_pa2 w h (tq_o1 o c) (tq_c1n c) L) h 0 ((nI 0), (tq_rec I o c))).2
set_option maxRecDepth 20000 in
theorem c_X11_paint (g : tq_G) (rest : List tq_S) (I : tq_I) (J : Int64)  (w h o c L : Nat) (k : tq_ok I w h o c L) (hru : tm_rul I) : CT g mX11_paint 7 0 0 [.ref 0] (tq_SC ++ rest) tq_RR I J (tq_ret (tq_SC ++ rest) tq_RR (some (.int (r_X11_paint I w h o c L))) (I_X11_paint I w h o c L) J) := by
  refine CT.ret kX11_paint (Nat.le_of_ble_eq_true rfl) (fun x0 C hR hZ => ?_)
  refine EV_en (lv' := [some (.ref 0), none, none, none]) 3 rfl ?_
  refine EV_blk (own := 11) C rfl [(.aload_n 0, 0, 0, 0, 0), (.getfield 19, 11, 1, 369, 0), (.aload_n 0, 0, 0, 0, 0), (.getfield 12, 11, 0, 368, 0)] (pc' := 8) (by decide +kernel) (lv' := [some (.ref 0), none, none, none]) (st' := [.ref 1, .ref 17]) (I' := I) (J' := J) rfl ?_
  refine EV_cV (own := 11) (idx := 73) (μ' := mX2_record) (b := 17) (cb := 2) (av := [.ref 1]) (rest := []) C hR rfl (Or.inl ⟨403, by decide⟩) kX2_record sX2_record (c_X2_record g rest I J o c k.ho k.hc k.o5 k.c5 k.bd) rfl rfl (by decide +kernel) rfl (by decide) (Nat.le_of_ble_eq_true rfl) rfl ⟨Nat.zero_le _, Nat.zero_le _⟩ ?_
  refine EV_blk (own := 11) C rfl [(.iconst 0, 0, 0, 0, (nI 0)), (.istore_n 1, 0, 0, 0, 0), (.iconst 0, 0, 0, 0, (nI 0)), (.istore_n 2, 0, 0, 0, 0)] (pc' := 15) (by decide +kernel) (lv' := [some (.ref 0), some (.int (nI 0)), some (.int (nI 0)), none]) (st' := []) (I' := (tq_rec I o c)) (J' := J) rfl ?_
  refine lp_pa2 C hR J w h (tq_o1 o c) (tq_c1n c) L k.w10 k.h10 h 0 ((nI 0), (tq_rec I o c)) (by omega) ⟨k.rec, hru.rec⟩ ?_
  refine EV_blk (own := 11) C rfl [(.iload_n 1, 0, 0, 0, 0)] (pc' := 87) (by decide +kernel) (lv' := [some (.ref 0), some (.int ((tq_it (f_pa2 w h (tq_o1 o c) (tq_c1n c) L) h 0 ((nI 0), (tq_rec I o c))).1)), some (.int (nI ((0 + h)))), none]) (st' := [.int ((tq_it (f_pa2 w h (tq_o1 o c) (tq_c1n c) L) h 0 ((nI 0), (tq_rec I o c))).1)]) (I' := (tq_it (f_pa2 w h (tq_o1 o c) (tq_c1n c) L) h 0 ((nI 0), (tq_rec I o c))).2) (J' := J) rfl ?_
  exact EV_iret C hZ rfl (by decide +kernel) (Nat.le_refl _) (Nat.le_refl _) ⟨tq_some (by simp only [r_X11_paint]), rfl, rfl, by simp only [I_X11_paint], rfl⟩
def r_X11_paintCell (I : tq_I) (x y : Int32) (w h o c L : Nat) : Int32 := (if (tq_b (tq_cell I x y)) = 0 then (-2) else (r_X11_renew (tq_rec I o c) (tq_N x) (tq_N y) w h (tq_o1 o c) (tq_c1n c) L))
def I_X11_paintCell (I : tq_I) (x y : Int32) (w h o c L : Nat) : tq_I := (if (tq_b (tq_cell I x y)) = 0 then I else (I_X11_renew (tq_rec I o c) (tq_N x) (tq_N y) w h (tq_o1 o c) (tq_c1n c) L))
set_option maxRecDepth 20000 in
theorem c_X11_paintCell (g : tq_G) (rest : List tq_S) (I : tq_I) (J : Int64) (x y : Int32) (w h o c L : Nat) (k : tq_ok I w h o c L)  : CT g mX11_paintCell 7 0 0 [.ref 0, .int x, .int y] (tq_SC ++ rest) tq_RR I J (tq_ret (tq_SC ++ rest) tq_RR (some (.int (r_X11_paintCell I x y w h o c L))) (I_X11_paintCell I x y w h o c L) J) := by
  refine CT.ret kX11_paintCell (Nat.le_of_ble_eq_true rfl) (fun x0 C hR hZ => ?_)
  refine EV_en (lv' := [some (.ref 0), some (.int x), some (.int y)]) 0 rfl ?_
  refine EV_blk (own := 11) C rfl [(.aload_n 0, 0, 0, 0, 0), (.getfield 12, 11, 0, 368, 0), (.getfield 77, 8, 0, 193, 0), (.iload_n 1, 0, 0, 0, 0), (.iload_n 2, 0, 0, 0, 0)] (pc' := 9) (by decide +kernel) (lv' := [some (.ref 0), some (.int x), some (.int y)]) (st' := [.int y, .int x, .ref 2]) (I' := I) (J' := J) rfl ?_
  refine EV_cV (own := 11) (idx := 153) (μ' := mX3_isCell) (b := 2) (cb := 3) (av := [.int x, .int y]) (rest := []) C hR rfl (Or.inl ⟨543, by decide⟩) kX3_isCell sX3_isCell (c_X3_isCell g rest I J x y ) rfl rfl (by decide +kernel) rfl (by decide) (Nat.le_of_ble_eq_true rfl) rfl ⟨Nat.zero_le _, Nat.zero_le _⟩ ?_
  refine EV_if_ne (off := 6) (tgt := 18) C (by decide +kernel) (by decide) (fun h1 => ?_) (fun h1 => ?_)
  · skip
    have h0 := tq_b10 h1
    have hxy := k.cell h0
    refine EV_lve (lv' := [some (.ref 0), some (.int (nI (tq_N x))), some (.int (nI (tq_N y)))]) (by rw [← tq_nIN h0.1, ← tq_nIN h0.2.2.1]) ?_
    refine EV_blk (own := 11) C rfl [(.aload_n 0, 0, 0, 0, 0), (.getfield 19, 11, 1, 369, 0), (.aload_n 0, 0, 0, 0, 0), (.getfield 12, 11, 0, 368, 0)] (pc' := 26) (by decide +kernel) (lv' := [some (.ref 0), some (.int (nI (tq_N x))), some (.int (nI (tq_N y)))]) (st' := [.ref 1, .ref 17]) (I' := I) (J' := J) rfl ?_
    refine EV_cV (own := 11) (idx := 73) (μ' := mX2_record) (b := 17) (cb := 2) (av := [.ref 1]) (rest := []) C hR rfl (Or.inl ⟨403, by decide⟩) kX2_record sX2_record (c_X2_record g rest I J o c k.ho k.hc k.o5 k.c5 k.bd) rfl rfl (by decide +kernel) rfl (by decide) (Nat.le_of_ble_eq_true rfl) rfl ⟨Nat.zero_le _, Nat.zero_le _⟩ ?_
    refine EV_blk (own := 11) C rfl [(.aload_n 0, 0, 0, 0, 0), (.iload_n 1, 0, 0, 0, 0), (.iload_n 2, 0, 0, 0, 0)] (pc' := 32) (by decide +kernel) (lv' := [some (.ref 0), some (.int (nI (tq_N x))), some (.int (nI (tq_N y)))]) (st' := [.int (nI (tq_N y)), .int (nI (tq_N x)), .ref 0]) (I' := (tq_rec I o c)) (J' := J) rfl ?_
    refine EV_cV (own := 11) (idx := 252) (μ' := mX11_renew) (b := 0) (cb := 11) (av := [.int (nI (tq_N x)), .int (nI (tq_N y))]) (rest := []) C hR rfl (Or.inl ⟨748, by decide⟩) kX11_renew sX11_renew (c_X11_renew g rest (tq_rec I o c) J (tq_N x) (tq_N y) w h (tq_o1 o c) (tq_c1n c) L k.rec (by omega) (by omega)) rfl rfl (by decide +kernel) rfl (by decide) (Nat.le_of_ble_eq_true rfl) rfl ⟨Nat.zero_le _, Nat.zero_le _⟩ ?_
    exact EV_iret C hZ rfl (by decide +kernel) (Nat.le_refl _) (Nat.le_refl _) ⟨tq_some (by simp only [r_X11_paintCell, if_neg h1]), rfl, rfl, by simp only [I_X11_paintCell, if_neg h1], rfl⟩
  · skip
    refine EV_blk (own := 11) C rfl [(.bipush (-2), 0, 0, 0, (-2))] (pc' := 17) (by decide +kernel) (lv' := [some (.ref 0), some (.int x), some (.int y)]) (st' := [.int (-2)]) (I' := I) (J' := J) rfl ?_
    exact EV_iret C hZ rfl (by decide +kernel) (Nat.le_refl _) (Nat.le_refl _) ⟨tq_some (by simp only [r_X11_paintCell, if_pos h1]), rfl, rfl, by simp only [I_X11_paintCell, if_pos h1], rfl⟩
