/-! more loops; Region: 99, met 100, found 101 -/
/-- rounds of a loop that may end by itself -/
def tq_wh {α : Type} (f : Nat → α → Option α) : Nat → Nat → α → α
  | 0, _, a => a
  | n + 1, i, a => match f i a with
    | some b => tq_wh f n (i + 1) b
    | none => a
theorem tq_wh_some {α : Type} {f : Nat → α → Option α} {n i : Nat} {a b : α} (h : f i a = some b) : tq_wh f (n + 1) i a = tq_wh f n (i + 1) b := by simp only [tq_wh, h]
theorem tq_wh_none {α : Type} {f : Nat → α → Option α} {n i : Nat} {a : α} (h : f i a = none) : tq_wh f (n + 1) i a = a := by simp only [tq_wh, h]
theorem tq_whP {α : Type} {f : Nat → α → Option α} (P : α → Prop) (h : ∀ i a b, P a → f i a = some b → P b) : ∀ (n i : Nat) (a : α), P a → P (tq_wh f n i a)
  | 0, _, _, ha => ha
  | n + 1, i, a, ha => by
    cases hf : f i a with
    | none => rw [tq_wh_none hf]; exact ha
    | some b => rw [tq_wh_some hf]; exact tq_whP P h n (i + 1) b (h i a b ha hf)
theorem tq_whF {f : Nat → tq_I → Option tq_I} {c : Nat} (h : ∀ i a b j, f i a = some b → b c j = a c j) (n i : Nat) (a : tq_I) (j : Nat) : tq_wh f n i a c j = a c j := tq_whP (fun b => b c j = a c j) (fun i b d hb hd => by rw [h i b d j hd]; exact hb) n i a rfl
theorem tq_whF2 {α : Type} {f : Nat → α × tq_I → Option (α × tq_I)} {c : Nat} (h : ∀ i a b j, f i a = some b → b.2 c j = a.2 c j) (n i : Nat) (a : α × tq_I) (j : Nat) : (tq_wh f n i a).2 c j = a.2 c j := tq_whP (fun b => b.2 c j = a.2 c j) (fun i b d hb hd => by rw [h i b d j hd]; exact hb) n i a rfl
def f_fgt1  (i : Nat) (a : tq_I) : tq_I := (tq_u a 100 i (nI 0))
set_option maxRecDepth 20000 in
theorem lp_fgt1 {g : tq_G} {rest : List tq_S} {x0 : tq_X} (C : tq_C g mX5_forget x0) (hR : tq_ht x0 0 0 0) (J : Int64)   : ∀ (n i : Nat) (a : tq_I), i + n = 121 → EV g mX5_forget x0 0 0 21 [some (.ref 99), some (.int (nI (i + n)))] [] (tq_SC ++ rest) tq_RR (tq_it (f_fgt1) n i a) J → EV g mX5_forget x0 0 0 2 [some (.ref 99), some (.int (nI i))] [] (tq_SC ++ rest) tq_RR a J := by
  intro n
  induction n with
  | zero =>
    intro i a hi kk
    rw [Nat.add_zero] at kk
    refine EV_blk (own := 5) C rfl [(.iload_n 1, 0, 0, 0, 0), (.bipush 121, 0, 0, 0, (nI 121))] (pc' := 5) (by decide +kernel) (lv' := [some (.ref 99), some (.int (nI i))]) (st' := [.int (nI 121), .int (nI i)]) (I' := a) (J' := J) rfl ?_
    refine EV_icmp_ge (off := 16) (tgt := 21) C (by decide +kernel) (by decide) (fun h1 => ?_) (fun h1 => ?_)
    · skip
      exact kk
    · skip
      exact absurd h1 (by simp (disch := omega) only [Int32.lt_iff_toInt_lt, Int32.le_iff_toInt_le, Int32.toInt_zero, nI_toInt, tq_m1]; omega)
  | succ n ih =>
    intro i a hi kk
    rw [show i + (n + 1) = (i + 1) + n by omega] at kk
    refine EV_blk (own := 5) C rfl [(.iload_n 1, 0, 0, 0, 0), (.bipush 121, 0, 0, 0, (nI 121))] (pc' := 5) (by decide +kernel) (lv' := [some (.ref 99), some (.int (nI i))]) (st' := [.int (nI 121), .int (nI i)]) (I' := a) (J' := J) rfl ?_
    refine EV_icmp_ge (off := 16) (tgt := 21) C (by decide +kernel) (by decide) (fun h1 => ?_) (fun h1 => ?_)
    · skip
      exact absurd h1 (by simp (disch := omega) only [Int32.lt_iff_toInt_lt, Int32.le_iff_toInt_le, Int32.toInt_zero, nI_toInt, tq_m1]; omega)
    · skip
      refine EV_blk (own := 5) C rfl [(.aload_n 0, 0, 0, 0, 0), (.getfield 9, 5, 0, 233, 0), (.iload_n 1, 0, 0, 0, 0), (.iconst 0, 0, 0, 0, (nI 0))] (pc' := 14) (by decide +kernel) (lv' := [some (.ref 99), some (.int (nI i))]) (st' := [.int (nI 0), .int (nI i), .ref 100]) (I' := a) (J' := J) rfl ?_
      refine EV_iast (j := i) C (by decide +kernel) rfl (nI_toInt (by omega)) (by omega) ?_
      refine EV_blk (own := 5) C rfl [(.iinc 1 1, 0, 0, 0, (nI 1)), (.goto (-16), 0, 0, 0, 0)] (pc' := 2) (by decide +kernel) (lv' := [some (.ref 99), some (.int ((nI i) + (nI 1)))]) (st' := []) (I' := (tq_u a 100 i (nI 0))) (J' := J) rfl ?_
      rw [show ((nI i) + (nI 1)) = (nI (i + 1)) from by simp (disch := omega) only [nI_add, tq_mul] <;> exact congrArg nI (by omega)]
      rw [tq_its, show (f_fgt1) i a = (tq_u a 100 i (nI 0)) from by simp only [f_fgt1, if_neg h1]] at kk
      exact ih (i + 1) (tq_u a 100 i (nI 0)) (by omega) kk
theorem fr_fgt1  {cz : Nat} (hc : cz ≠ 100) (n i : Nat) (a : tq_I) (jz : Nat) : (tq_it (f_fgt1) n i a) cz jz = a cz jz := by
  have hc0 := hc
  refine tq_itF (fun i a j => ?_) n i a jz
  simp only [f_fgt1]
  (repeat' split) <;> simp (disch := first | assumption | (simp only [ne_eq] at *; simp [*])) [tq_u, tq_cp, hc0, fr_tb1, fr_tb2, fr_X8_touchBlock, fr_X8_touchAll, fr_X8_changeCorner, fr_X8_changePath, fr_cb1, fr_cb2, fr_X8_changeBlock, fr_wipe1, fr_X1_wipe, fr_sm1, fr_sm2, fr_X8_startMap, fr_X6_place, fr_mt1, fr_mt2, fr_X6_moveTo, fr_ch2, fr_X10_choose, fr_X1_take]
def I_X5_forget (I : tq_I)  : tq_I := (tq_it (f_fgt1) 121 0 I)
set_option maxRecDepth 20000 in
theorem c_X5_forget (g : tq_G) (rest : List tq_S) (I : tq_I) (J : Int64)   : CT g mX5_forget 0 0 0 [.ref 99] (tq_SC ++ rest) tq_RR I J (tq_ret (tq_SC ++ rest) tq_RR none (I_X5_forget I) J) := by
  refine CT.ret kX5_forget (Nat.le_of_ble_eq_true rfl) (fun x0 C hR hZ => ?_)
  refine EV_en (lv' := [some (.ref 99), none]) 1 rfl ?_
  refine EV_blk (own := 5) C rfl [(.iconst 0, 0, 0, 0, (nI 0)), (.istore_n 1, 0, 0, 0, 0)] (pc' := 2) (by decide +kernel) (lv' := [some (.ref 99), some (.int (nI 0))]) (st' := []) (I' := I) (J' := J) rfl ?_
  refine lp_fgt1 C hR J  121 0 I (by omega) ?_
  exact EV_vret C hZ rfl (by decide +kernel) (Nat.le_refl _) (Nat.le_refl _) ⟨rfl, rfl, rfl, by simp only [I_X5_forget], rfl⟩
theorem fr_X5_forget (I : tq_I)  {cz : Nat} (hc : cz ≠ 100) (jz : Nat) : I_X5_forget I  cz jz = I cz jz := by
  have hc0 := hc
  simp only [I_X5_forget]
  (repeat' split) <;> simp (disch := first | assumption | (simp only [ne_eq] at *; simp [*])) [tq_u, tq_cp, hc0, fr_tb1, fr_tb2, fr_X8_touchBlock, fr_X8_touchAll, fr_X8_changeCorner, fr_X8_changePath, fr_cb1, fr_cb2, fr_X8_changeBlock, fr_wipe1, fr_X1_wipe, fr_sm1, fr_sm2, fr_X8_startMap, fr_X6_place, fr_mt1, fr_mt2, fr_X6_moveTo, fr_ch2, fr_X10_choose, fr_X1_take, fr_fgt1]
set_option maxRecDepth 20000 in
theorem cI_X11_cornerIndex (g : tq_G) (rest : List tq_S) (I : tq_I) (J : Int64) (x y : Int32)  : CT g mX11_cornerIndex 0 0 0 [.int x, .int y] (tq_SC ++ rest) tq_RR I J (tq_ret (tq_SC ++ rest) tq_RR (some (.int ((y * (nI 11)) + x))) I J) := by
  refine CT.ret kX11_cornerIndex (Nat.le_of_ble_eq_true rfl) (fun x0 C hR hZ => ?_)
  refine EV_en (lv' := [some (.int x), some (.int y)]) 0 rfl ?_
  refine EV_blk (own := 11) C rfl [(.iload_n 1, 0, 0, 0, 0), (.bipush 11, 0, 0, 0, (nI 11)), (.imul, 0, 0, 0, 0), (.iload_n 0, 0, 0, 0, 0), (.iadd, 0, 0, 0, 0)] (pc' := 6) (by decide +kernel) (lv' := [some (.int x), some (.int y)]) (st' := [.int ((y * (nI 11)) + x)]) (I' := I) (J' := J) rfl ?_
  exact EV_iret C hZ rfl (by decide +kernel) (Nat.le_refl _) (Nat.le_refl _) ⟨rfl, rfl, rfl, rfl, rfl⟩
set_option maxRecDepth 20000 in
theorem c_X5_knows (g : tq_G) (rest : List tq_S) (I : tq_I) (J : Int64) (x y : Int32) (hx0 : 0 ≤ x.toInt) (hx1 : x.toInt ≤ 10) (hy0 : 0 ≤ y.toInt) (hy1 : y.toInt ≤ 10) : CT g mX5_knows 1 0 0 [.ref 99, .int x, .int y] (tq_SC ++ rest) tq_RR I J (tq_ret (tq_SC ++ rest) tq_RR (some (.int (tq_b (I 100 (tq_N y * 11 + tq_N x) = nI 1)))) I J) := by
  refine CT.ret kX5_knows (Nat.le_of_ble_eq_true rfl) (fun x0 C hR hZ => ?_)
  refine EV_en (lv' := [some (.ref 99), some (.int x), some (.int y)]) 0 rfl ?_
  refine EV_blk (own := 5) C rfl [(.aload_n 0, 0, 0, 0, 0), (.getfield 9, 5, 0, 233, 0), (.iload_n 1, 0, 0, 0, 0), (.iload_n 2, 0, 0, 0, 0)] (pc' := 6) (by decide +kernel) (lv' := [some (.ref 99), some (.int x), some (.int y)]) (st' := [.int y, .int x, .ref 100]) (I' := I) (J' := J) rfl ?_
  refine EV_cS (own := 5) (idx := 18) (μ' := mX11_cornerIndex) (av := [.int x, .int y]) (rest := [.ref 100]) C hR rfl (Or.inr ⟨508, by decide⟩) kX11_cornerIndex sX11_cornerIndex (cI_X11_cornerIndex g rest I J x y ) (by decide +kernel) rfl (by decide) (Nat.le_of_ble_eq_true rfl) rfl ⟨Nat.zero_le _, Nat.zero_le _⟩ ?_
  refine EV_iald (j := (tq_N y * 11 + tq_N x)) C (by decide +kernel) rfl (tq_ix 11 hx0 (by omega) hy0 (by omega) (by decide)) (by unfold tq_N; omega) ?_
  refine EV_blk (own := 5) C rfl [(.iconst 1, 0, 0, 0, (nI 1))] (pc' := 11) (by decide +kernel) (lv' := [some (.ref 99), some (.int x), some (.int y)]) (st' := [.int (nI 1), .int (I 100 (tq_N y * 11 + tq_N x))]) (I' := I) (J' := J) rfl ?_
  refine EV_icmp_ne (off := 7) (tgt := 18) C (by decide +kernel) (by decide) (fun h1 => ?_) (fun h1 => ?_)
  · skip
    refine EV_blk (own := 5) C rfl [(.iconst 0, 0, 0, 0, (nI 0))] (pc' := 19) (by decide +kernel) (lv' := [some (.ref 99), some (.int x), some (.int y)]) (st' := [.int (nI 0)]) (I' := I) (J' := J) rfl ?_
    exact EV_zret C hZ rfl (by decide) (by decide +kernel) (Nat.le_refl _) (Nat.le_refl _) ⟨tq_r0 h1, rfl, rfl, rfl, rfl⟩
  · skip
    refine EV_blk (own := 5) C rfl [(.iconst 1, 0, 0, 0, (nI 1)), (.goto 4, 0, 0, 0, 0)] (pc' := 19) (by decide +kernel) (lv' := [some (.ref 99), some (.int x), some (.int y)]) (st' := [.int (nI 1)]) (I' := I) (J' := J) rfl ?_
    exact EV_zret C hZ rfl (by decide) (by decide +kernel) (Nat.le_refl _) (Nat.le_refl _) ⟨tq_r1 h1, rfl, rfl, rfl, rfl⟩
set_option maxRecDepth 20000 in
theorem cI_X3_terrainAt (g : tq_G) (rest : List tq_S) (I : tq_I) (J : Int64) (x y : Int32) (hx0 : 0 ≤ x.toInt) (hx1 : x.toInt ≤ 10) (hy0 : 0 ≤ y.toInt) (hy1 : y.toInt ≤ 10) : CT g mX3_terrainAt 1 0 0 [.ref 2, .int x, .int y] (tq_SC ++ rest) tq_RR I J (tq_ret (tq_SC ++ rest) tq_RR (some (.int (I 3 (tq_N y * 11 + tq_N x)))) I J) := by
  refine CT.ret kX3_terrainAt (Nat.le_of_ble_eq_true rfl) (fun x0 C hR hZ => ?_)
  refine EV_en (lv' := [some (.ref 2), some (.int x), some (.int y)]) 0 rfl ?_
  refine EV_blk (own := 3) C rfl [(.aload_n 0, 0, 0, 0, 0), (.getfield 9, 3, 2, 103, 0), (.iload_n 1, 0, 0, 0, 0), (.iload_n 2, 0, 0, 0, 0)] (pc' := 6) (by decide +kernel) (lv' := [some (.ref 2), some (.int x), some (.int y)]) (st' := [.int y, .int x, .ref 3]) (I' := I) (J' := J) rfl ?_
  refine EV_cS (own := 3) (idx := 31) (μ' := mX11_cornerIndex) (av := [.int x, .int y]) (rest := [.ref 3]) C hR rfl (Or.inr ⟨458, by decide⟩) kX11_cornerIndex sX11_cornerIndex (cI_X11_cornerIndex g rest I J x y ) (by decide +kernel) rfl (by decide) (Nat.le_of_ble_eq_true rfl) rfl ⟨Nat.zero_le _, Nat.zero_le _⟩ ?_
  refine EV_iald (j := (tq_N y * 11 + tq_N x)) C (by decide +kernel) rfl (tq_ix 11 hx0 (by omega) hy0 (by omega) (by decide)) (by unfold tq_N; omega) ?_
  exact EV_iret C hZ rfl (by decide +kernel) (Nat.le_refl _) (Nat.le_refl _) ⟨rfl, rfl, rfl, rfl, rfl⟩
def I_X5_meet (I : tq_I) (x y t : Int32) : tq_I := (if (tq_b (tq_corner I x y)) = 0 then I else (if (tq_b (I 100 (tq_N y * 11 + tq_N x) = nI 1)) = 0 then (if (I 3 (tq_N y * 11 + tq_N x)) = t then (if (nI 121) ≤ (I 99 2) then I else (tq_u (tq_u (tq_u I 100 (tq_N y * 11 + tq_N x) (nI 1)) 101 (tq_N (I 99 2)) ((y * (nI 11)) + x)) 99 2 (((tq_u (tq_u I 100 (tq_N y * 11 + tq_N x) (nI 1)) 101 (tq_N (I 99 2)) ((y * (nI 11)) + x)) 99 2) + (nI 1)))) else I) else I))
set_option maxRecDepth 20000 in
theorem c_X5_meet (g : tq_G) (rest : List tq_S) (I : tq_I) (J : Int64) (x y t : Int32) (hr0 : 0 ≤ (I 99 2).toInt) (hr1 : (I 99 2).toInt ≤ 121) (hw10 : (I 2 0).toInt ≤ 10) (hh10 : (I 2 1).toInt ≤ 10) : CT g mX5_meet 2 0 0 [.ref 99, .ref 2, .int x, .int y, .int t] (tq_SC ++ rest) tq_RR I J (tq_ret (tq_SC ++ rest) tq_RR none (I_X5_meet I x y t) J) := by
  refine CT.ret kX5_meet (Nat.le_of_ble_eq_true rfl) (fun x0 C hR hZ => ?_)
  refine EV_en (lv' := [some (.ref 99), some (.ref 2), some (.int x), some (.int y), some (.int t)]) 0 rfl ?_
  refine EV_blk (own := 5) C rfl [(.aload_n 1, 0, 0, 0, 0), (.iload_n 2, 0, 0, 0, 0), (.iload_n 3, 0, 0, 0, 0)] (pc' := 3) (by decide +kernel) (lv' := [some (.ref 99), some (.ref 2), some (.int x), some (.int y), some (.int t)]) (st' := [.int y, .int x, .ref 2]) (I' := I) (J' := J) rfl ?_
  refine EV_cV (own := 5) (idx := 42) (μ' := mX3_isCorner) (b := 2) (cb := 3) (av := [.int x, .int y]) (rest := []) C hR rfl (Or.inl ⟨503, by decide⟩) kX3_isCorner sX3_isCorner (c_X3_isCorner g rest I J x y ) rfl rfl (by decide +kernel) rfl (by decide) (Nat.le_of_ble_eq_true rfl) rfl ⟨Nat.zero_le _, Nat.zero_le _⟩ ?_
  refine EV_if_eq (off := 23) (tgt := 29) C (by decide +kernel) (by decide) (fun h1 => ?_) (fun h1 => ?_)
  · skip
    exact EV_vret C hZ rfl (by decide +kernel) (Nat.le_refl _) (Nat.le_refl _) ⟨rfl, rfl, rfl, by simp only [I_X5_meet, if_pos h1], rfl⟩
  · skip
    have h0 := tq_b1.mp (tq_b01.resolve_left h1)
    refine EV_blk (own := 5) C rfl [(.aload_n 0, 0, 0, 0, 0), (.iload_n 2, 0, 0, 0, 0), (.iload_n 3, 0, 0, 0, 0)] (pc' := 12) (by decide +kernel) (lv' := [some (.ref 99), some (.ref 2), some (.int x), some (.int y), some (.int t)]) (st' := [.int y, .int x, .ref 99]) (I' := I) (J' := J) rfl ?_
    refine EV_cV (own := 5) (idx := 46) (μ' := mX5_knows) (b := 99) (cb := 5) (av := [.int x, .int y]) (rest := []) C hR rfl (Or.inl ⟨504, by decide⟩) kX5_knows sX5_knows (c_X5_knows g rest I J x y (by omega) (by omega) (by omega) (by omega)) rfl rfl (by decide +kernel) rfl (by decide) (Nat.le_of_ble_eq_true rfl) rfl ⟨Nat.zero_le _, Nat.zero_le _⟩ ?_
    refine EV_if_ne (off := 14) (tgt := 29) C (by decide +kernel) (by decide) (fun h2 => ?_) (fun h2 => ?_)
    · skip
      exact EV_vret C hZ rfl (by decide +kernel) (Nat.le_refl _) (Nat.le_refl _) ⟨rfl, rfl, rfl, by simp only [I_X5_meet, if_neg h1, if_neg h2], rfl⟩
    · skip
      refine EV_blk (own := 5) C rfl [(.aload_n 1, 0, 0, 0, 0), (.iload_n 2, 0, 0, 0, 0), (.iload_n 3, 0, 0, 0, 0)] (pc' := 21) (by decide +kernel) (lv' := [some (.ref 99), some (.ref 2), some (.int x), some (.int y), some (.int t)]) (st' := [.int y, .int x, .ref 2]) (I' := I) (J' := J) rfl ?_
      refine EV_cV (own := 5) (idx := 26) (μ' := mX3_terrainAt) (b := 2) (cb := 3) (av := [.int x, .int y]) (rest := []) C hR rfl (Or.inl ⟨498, by decide⟩) kX3_terrainAt sX3_terrainAt (cI_X3_terrainAt g rest I J x y (by omega) (by omega) (by omega) (by omega)) rfl rfl (by decide +kernel) rfl (by decide) (Nat.le_of_ble_eq_true rfl) rfl ⟨Nat.zero_le _, Nat.zero_le _⟩ ?_
      refine EV_blk (own := 5) C rfl [(.iload 4, 0, 0, 0, 0)] (pc' := 26) (by decide +kernel) (lv' := [some (.ref 99), some (.ref 2), some (.int x), some (.int y), some (.int t)]) (st' := [.int t, .int (I 3 (tq_N y * 11 + tq_N x))]) (I' := I) (J' := J) rfl ?_
      refine EV_icmp_eq (off := 4) (tgt := 30) C (by decide +kernel) (by decide) (fun h3 => ?_) (fun h3 => ?_)
      · skip
        refine EV_blk (own := 5) C rfl [(.aload_n 0, 0, 0, 0, 0), (.getfield 22, 5, 2, 235, 0), (.bipush 121, 0, 0, 0, (nI 121))] (pc' := 36) (by decide +kernel) (lv' := [some (.ref 99), some (.ref 2), some (.int x), some (.int y), some (.int t)]) (st' := [.int (nI 121), .int (I 99 2)]) (I' := I) (J' := J) rfl ?_
        refine EV_icmp_ge (off := 38) (tgt := 74) C (by decide +kernel) (by decide) (fun h4 => ?_) (fun h4 => ?_)
        · skip
          exact EV_vret C hZ rfl (by decide +kernel) (Nat.le_refl _) (Nat.le_refl _) ⟨rfl, rfl, rfl, by simp only [I_X5_meet, if_neg h1, if_pos h2, if_pos h3, if_pos h4], rfl⟩
        · skip
          refine EV_blk (own := 5) C rfl [(.aload_n 0, 0, 0, 0, 0), (.getfield 9, 5, 0, 233, 0), (.iload_n 2, 0, 0, 0, 0), (.iload_n 3, 0, 0, 0, 0)] (pc' := 45) (by decide +kernel) (lv' := [some (.ref 99), some (.ref 2), some (.int x), some (.int y), some (.int t)]) (st' := [.int y, .int x, .ref 100]) (I' := I) (J' := J) rfl ?_
          refine EV_cS (own := 5) (idx := 18) (μ' := mX11_cornerIndex) (av := [.int x, .int y]) (rest := [.ref 100]) C hR rfl (Or.inr ⟨508, by decide⟩) kX11_cornerIndex sX11_cornerIndex (cI_X11_cornerIndex g rest I J x y ) (by decide +kernel) rfl (by decide) (Nat.le_of_ble_eq_true rfl) rfl ⟨Nat.zero_le _, Nat.zero_le _⟩ ?_
          refine EV_blk (own := 5) C rfl [(.iconst 1, 0, 0, 0, (nI 1))] (pc' := 49) (by decide +kernel) (lv' := [some (.ref 99), some (.ref 2), some (.int x), some (.int y), some (.int t)]) (st' := [.int (nI 1), .int ((y * (nI 11)) + x), .ref 100]) (I' := I) (J' := J) rfl ?_
          refine EV_iast (j := (tq_N y * 11 + tq_N x)) C (by decide +kernel) rfl (tq_ix 11 (by omega) (by omega) (by omega) (by omega) (by decide)) (by unfold tq_N; omega) ?_
          refine EV_blk (own := 5) C rfl [(.aload_n 0, 0, 0, 0, 0), (.getfield 15, 5, 1, 234, 0), (.aload_n 0, 0, 0, 0, 0), (.getfield 22, 5, 2, 235, 0), (.iload_n 2, 0, 0, 0, 0), (.iload_n 3, 0, 0, 0, 0)] (pc' := 60) (by decide +kernel) (lv' := [some (.ref 99), some (.ref 2), some (.int x), some (.int y), some (.int t)]) (st' := [.int y, .int x, .int ((tq_u I 100 (tq_N y * 11 + tq_N x) (nI 1)) 99 2), .ref 101]) (I' := (tq_u I 100 (tq_N y * 11 + tq_N x) (nI 1))) (J' := J) rfl ?_
          refine EV_cS (own := 5) (idx := 18) (μ' := mX11_cornerIndex) (av := [.int x, .int y]) (rest := [.int ((tq_u I 100 (tq_N y * 11 + tq_N x) (nI 1)) 99 2), .ref 101]) C hR rfl (Or.inr ⟨508, by decide⟩) kX11_cornerIndex sX11_cornerIndex (cI_X11_cornerIndex g rest (tq_u I 100 (tq_N y * 11 + tq_N x) (nI 1)) J x y ) (by decide +kernel) rfl (by decide) (Nat.le_of_ble_eq_true rfl) rfl ⟨Nat.zero_le _, Nat.zero_le _⟩ ?_
          have h121 : ¬ (nI 121) ≤ I 99 2 := h4
          simp (disch := omega) only [Int32.le_iff_toInt_le, nI_toInt] at h121
          refine EV_iast (j := (tq_N (I 99 2))) C (by decide +kernel) rfl (show (I 99 2).toInt = _ by unfold tq_N; omega) (by unfold tq_N; omega) ?_
          refine EV_blk (own := 5) C rfl [(.aload_n 0, 0, 0, 0, 0), (.dup, 0, 0, 0, 0), (.getfield 22, 5, 2, 235, 0), (.iconst 1, 0, 0, 0, (nI 1)), (.iadd, 0, 0, 0, 0), (.putfield 22, 5, 2, 235, 0)] (pc' := 74) (by decide +kernel) (lv' := [some (.ref 99), some (.ref 2), some (.int x), some (.int y), some (.int t)]) (st' := []) (I' := (tq_u (tq_u (tq_u I 100 (tq_N y * 11 + tq_N x) (nI 1)) 101 (tq_N (I 99 2)) ((y * (nI 11)) + x)) 99 2 (((tq_u (tq_u I 100 (tq_N y * 11 + tq_N x) (nI 1)) 101 (tq_N (I 99 2)) ((y * (nI 11)) + x)) 99 2) + (nI 1)))) (J' := J) rfl ?_
          exact EV_vret C hZ rfl (by decide +kernel) (Nat.le_refl _) (Nat.le_refl _) ⟨rfl, rfl, rfl, by simp only [I_X5_meet, if_neg h1, if_pos h2, if_pos h3, if_neg h4], rfl⟩
      · skip
        exact EV_vret C hZ rfl (by decide +kernel) (Nat.le_refl _) (Nat.le_refl _) ⟨rfl, rfl, rfl, by simp only [I_X5_meet, if_neg h1, if_pos h2, if_neg h3], rfl⟩
theorem fr_X5_meet (I : tq_I) (x y t : Int32) {cz : Nat} (hc : cz ≠ 99 ∧ cz ≠ 100 ∧ cz ≠ 101) (jz : Nat) : I_X5_meet I x y t cz jz = I cz jz := by
  obtain ⟨hc0, hc1, hc2⟩ := hc
  simp only [I_X5_meet]
  (repeat' split) <;> simp (disch := first | assumption | (simp only [ne_eq] at *; simp [*])) [tq_u, tq_cp, hc0, hc1, hc2, fr_tb1, fr_tb2, fr_X8_touchBlock, fr_X8_touchAll, fr_X8_changeCorner, fr_X8_changePath, fr_cb1, fr_cb2, fr_X8_changeBlock, fr_wipe1, fr_X1_wipe, fr_sm1, fr_sm2, fr_X8_startMap, fr_X6_place, fr_mt1, fr_mt2, fr_X6_moveTo, fr_ch2, fr_X10_choose, fr_X1_take, fr_fgt1, fr_X5_forget]
/-- the region's rows are sound -/
def tq_rg (I : tq_I) : Prop := (∀ k, k < 121 → 0 ≤ (I 101 k).toInt ∧ (I 101 k).toInt ≤ 120) ∧ 0 ≤ (I 99 2).toInt ∧ (I 99 2).toInt ≤ 121 ∧ (I 2 0).toInt ≤ 10 ∧ (I 2 1).toInt ≤ 10
theorem tq_rg_meet {I : tq_I} {x y t : Int32} (h : tq_rg I) : tq_rg (I_X5_meet I x y t) := by
  obtain ⟨h1, h2, h3, h4, h5⟩ := h
  unfold I_X5_meet
  split
  · exact ⟨h1, h2, h3, h4, h5⟩
  · rename_i hc
    have h0 := tq_b1.mp (tq_b01.resolve_left hc)
    split
    · split
      · split
        · exact ⟨h1, h2, h3, h4, h5⟩
        · rename_i h121
          have h6 : ¬ (nI 121) ≤ I 99 2 := h121
          simp (disch := omega) only [Int32.le_iff_toInt_le, nI_toInt] at h6
          have e := tq_ix (x := x) (y := y) 11 h0.1 (by omega) h0.2.2.1 (by omega) (by decide)
          have b1 : tq_N x ≤ 10 := by unfold tq_N; omega
          have b2 : tq_N y ≤ 10 := by unfold tq_N; omega
          have e2 : (I 99 2 + nI 1).toInt = (I 99 2).toInt + 1 := by
            have hn := tq_nIN h2
            have hle : tq_N (I 99 2) ≤ 121 := by unfold tq_N; omega
            rw [hn, nI_add, nI_toInt (by omega), nI_toInt (by omega)]
            rfl
          refine ⟨fun k hk => ?_, ?_, ?_, h4, h5⟩
          · by_cases hkk : k = tq_N (I 99 2)
            · subst hkk
              have e3 : ∀ (K : tq_I) (v : Int32), tq_u (tq_u K 101 (tq_N (I 99 2)) (y * nI 11 + x)) 99 2 v 101 (tq_N (I 99 2)) = y * nI 11 + x := fun K v => by rw [tq_u_cell (by decide), tq_u_same]
              rw [e3]
              omega
            · rw [tq_u_cell (by decide), tq_u_slot hkk]
              exact h1 k hk
          · show 0 ≤ (I 99 2 + nI 1).toInt
            omega
          · show (I 99 2 + nI 1).toInt ≤ 121
            omega
      · exact ⟨h1, h2, h3, h4, h5⟩
    · exact ⟨h1, h2, h3, h4, h5⟩
set_option maxRecDepth 20000 in
theorem c_X5_columnOf (g : tq_G) (rest : List tq_S) (I : tq_I) (J : Int64) (k : Nat) (hk : k ≤ 120) : CT g mX5_columnOf 0 0 0 [.ref 99, .int (nI k)] (tq_SC ++ rest) tq_RR I J (tq_ret (tq_SC ++ rest) tq_RR (some (.int (tq_rem (I 101 k) (nI 11)))) I J) := by
  refine CT.ret kX5_columnOf (Nat.le_of_ble_eq_true rfl) (fun x0 C hR hZ => ?_)
  refine EV_en (lv' := [some (.ref 99), some (.int (nI k))]) 0 rfl ?_
  refine EV_blk (own := 5) C rfl [(.aload_n 0, 0, 0, 0, 0), (.getfield 15, 5, 1, 234, 0), (.iload_n 1, 0, 0, 0, 0)] (pc' := 5) (by decide +kernel) (lv' := [some (.ref 99), some (.int (nI k))]) (st' := [.int (nI k), .ref 101]) (I' := I) (J' := J) rfl ?_
  refine EV_iald (j := k) C (by decide +kernel) rfl (nI_toInt (by omega)) (by omega) ?_
  refine EV_blk (own := 5) C rfl [(.bipush 11, 0, 0, 0, (nI 11))] (pc' := 8) (by decide +kernel) (lv' := [some (.ref 99), some (.int (nI k))]) (st' := [.int (nI 11), .int (I 101 k)]) (I' := I) (J' := J) rfl ?_
  refine EV_irem C (by decide +kernel) (by decide) ?_
  exact EV_iret C hZ rfl (by decide +kernel) (Nat.le_refl _) (Nat.le_refl _) ⟨rfl, rfl, rfl, rfl, rfl⟩
set_option maxRecDepth 20000 in
theorem c_X5_rowOf (g : tq_G) (rest : List tq_S) (I : tq_I) (J : Int64) (k : Nat) (hk : k ≤ 120) : CT g mX5_rowOf 0 0 0 [.ref 99, .int (nI k)] (tq_SC ++ rest) tq_RR I J (tq_ret (tq_SC ++ rest) tq_RR (some (.int ((I 101 k) / (nI 11)))) I J) := by
  refine CT.ret kX5_rowOf (Nat.le_of_ble_eq_true rfl) (fun x0 C hR hZ => ?_)
  refine EV_en (lv' := [some (.ref 99), some (.int (nI k))]) 0 rfl ?_
  refine EV_blk (own := 5) C rfl [(.aload_n 0, 0, 0, 0, 0), (.getfield 15, 5, 1, 234, 0), (.iload_n 1, 0, 0, 0, 0)] (pc' := 5) (by decide +kernel) (lv' := [some (.ref 99), some (.int (nI k))]) (st' := [.int (nI k), .ref 101]) (I' := I) (J' := J) rfl ?_
  refine EV_iald (j := k) C (by decide +kernel) rfl (nI_toInt (by omega)) (by omega) ?_
  refine EV_blk (own := 5) C rfl [(.bipush 11, 0, 0, 0, (nI 11))] (pc' := 8) (by decide +kernel) (lv' := [some (.ref 99), some (.int (nI k))]) (st' := [.int (nI 11), .int (I 101 k)]) (I' := I) (J' := J) rfl ?_
  refine EV_idiv C (by decide +kernel) (by decide) ?_
  exact EV_iret C hZ rfl (by decide +kernel) (Nat.le_refl _) (Nat.le_refl _) ⟨rfl, rfl, rfl, rfl, rfl⟩
def f_gat1 (x y : Nat) (t : Int32) (i : Nat) (a : tq_I) : Option (tq_I) := (if (a 99 2) ≤ (nI i) then none else (some (I_X5_meet (I_X5_meet (I_X5_meet (I_X5_meet a ((tq_rem (a 101 i) (nI 11)) - (nI 1)) ((a 101 i) / (nI 11)) t) ((tq_rem (a 101 i) (nI 11)) + (nI 1)) ((a 101 i) / (nI 11)) t) (tq_rem (a 101 i) (nI 11)) (((a 101 i) / (nI 11)) - (nI 1)) t) (tq_rem (a 101 i) (nI 11)) (((a 101 i) / (nI 11)) + (nI 1)) t)))
set_option maxRecDepth 20000 in
theorem lp_gat1 {g : tq_G} {rest : List tq_S} {x0 : tq_X} (C : tq_C g mX5_gather x0) (hR : tq_ht x0 3 0 0) (J : Int64) (x y : Nat) (t : Int32)  : ∀ (n i : Nat) (a : tq_I), i + n = 121 → tq_rg a → EV g mX5_gather x0 0 0 115 [some (.ref 99), some (.ref 2), some (.int (nI x)), some (.int (nI y)), some (.int t), none, none, none] [] (tq_SC ++ rest) tq_RR (tq_wh (f_gat1 x y t) n i a) J → EV g mX5_gather x0 0 0 25 [some (.ref 99), some (.ref 2), some (.int (nI x)), some (.int (nI y)), some (.int t), some (.int (nI i)), none, none] [] (tq_SC ++ rest) tq_RR a J := by
  intro n
  induction n with
  | zero =>
    intro i a hi hI kk
    rw [show tq_wh _ 0 i a = a from rfl] at kk
    refine EV_blk (own := 5) C rfl [(.iload 5, 0, 0, 0, 0), (.aload_n 0, 0, 0, 0, 0), (.getfield 22, 5, 2, 235, 0)] (pc' := 31) (by decide +kernel) (lv' := [some (.ref 99), some (.ref 2), some (.int (nI x)), some (.int (nI y)), some (.int t), some (.int (nI i)), none, none]) (st' := [.int (a 99 2), .int (nI i)]) (I' := a) (J' := J) rfl ?_
    refine EV_icmp_ge (off := 84) (tgt := 115) C (by decide +kernel) (by decide) (fun h1 => ?_) (fun h1 => ?_)
    · skip
      refine EV_fg (lv' := [some (.ref 99), some (.ref 2), some (.int (nI x)), some (.int (nI y)), some (.int t), none, none, none]) ⟨rfl, rfl, rfl, rfl, rfl, trivial⟩ ?_
      exact kk
    · skip
      refine EV_blk (own := 5) C rfl [(.iload 5, 0, 0, 0, 0), (.bipush 121, 0, 0, 0, (nI 121))] (pc' := 38) (by decide +kernel) (lv' := [some (.ref 99), some (.ref 2), some (.int (nI x)), some (.int (nI y)), some (.int t), some (.int (nI i)), none, none]) (st' := [.int (nI 121), .int (nI i)]) (I' := a) (J' := J) rfl ?_
      refine EV_icmp_ge (off := 77) (tgt := 115) C (by decide +kernel) (by decide) (fun h2 => ?_) (fun h2 => ?_)
      · skip
        refine EV_fg (lv' := [some (.ref 99), some (.ref 2), some (.int (nI x)), some (.int (nI y)), some (.int t), none, none, none]) ⟨rfl, rfl, rfl, rfl, rfl, trivial⟩ ?_
        exact kk
      · skip
        exact absurd (by simp (disch := omega) only [Int32.le_iff_toInt_le, nI_toInt]; omega) h2
  | succ n ih =>
    intro i a hi hI kk
    refine EV_blk (own := 5) C rfl [(.iload 5, 0, 0, 0, 0), (.aload_n 0, 0, 0, 0, 0), (.getfield 22, 5, 2, 235, 0)] (pc' := 31) (by decide +kernel) (lv' := [some (.ref 99), some (.ref 2), some (.int (nI x)), some (.int (nI y)), some (.int t), some (.int (nI i)), none, none]) (st' := [.int (a 99 2), .int (nI i)]) (I' := a) (J' := J) rfl ?_
    refine EV_icmp_ge (off := 84) (tgt := 115) C (by decide +kernel) (by decide) (fun h1 => ?_) (fun h1 => ?_)
    · skip
      refine EV_fg (lv' := [some (.ref 99), some (.ref 2), some (.int (nI x)), some (.int (nI y)), some (.int t), none, none, none]) ⟨rfl, rfl, rfl, rfl, rfl, trivial⟩ ?_
      rw [tq_wh_none (show (f_gat1 x y t) i a = none from by simp only [f_gat1, if_pos h1])] at kk
      exact kk
    · skip
      refine EV_blk (own := 5) C rfl [(.iload 5, 0, 0, 0, 0), (.bipush 121, 0, 0, 0, (nI 121))] (pc' := 38) (by decide +kernel) (lv' := [some (.ref 99), some (.ref 2), some (.int (nI x)), some (.int (nI y)), some (.int t), some (.int (nI i)), none, none]) (st' := [.int (nI 121), .int (nI i)]) (I' := a) (J' := J) rfl ?_
      refine EV_icmp_ge (off := 77) (tgt := 115) C (by decide +kernel) (by decide) (fun h2 => ?_) (fun h2 => ?_)
      · skip
        exact absurd h2 (by simp (disch := omega) only [Int32.le_iff_toInt_le, nI_toInt]; omega)
      · skip
        refine EV_blk (own := 5) C rfl [(.aload_n 0, 0, 0, 0, 0), (.iload 5, 0, 0, 0, 0)] (pc' := 44) (by decide +kernel) (lv' := [some (.ref 99), some (.ref 2), some (.int (nI x)), some (.int (nI y)), some (.int t), some (.int (nI i)), none, none]) (st' := [.int (nI i), .ref 99]) (I' := a) (J' := J) rfl ?_
        refine EV_cV (own := 5) (idx := 35) (μ' := mX5_columnOf) (b := 99) (cb := 5) (av := [.int (nI i)]) (rest := []) C hR rfl (Or.inl ⟨509, by decide⟩) kX5_columnOf sX5_columnOf (c_X5_columnOf g rest a J i (by omega)) rfl rfl (by decide +kernel) rfl (by decide) (Nat.le_of_ble_eq_true rfl) rfl ⟨Nat.zero_le _, Nat.zero_le _⟩ ?_
        refine EV_blk (own := 5) C rfl [(.istore 6, 0, 0, 0, 0), (.aload_n 0, 0, 0, 0, 0), (.iload 5, 0, 0, 0, 0)] (pc' := 52) (by decide +kernel) (lv' := [some (.ref 99), some (.ref 2), some (.int (nI x)), some (.int (nI y)), some (.int t), some (.int (nI i)), some (.int (tq_rem (a 101 i) (nI 11))), none]) (st' := [.int (nI i), .ref 99]) (I' := a) (J' := J) rfl ?_
        refine EV_cV (own := 5) (idx := 39) (μ' := mX5_rowOf) (b := 99) (cb := 5) (av := [.int (nI i)]) (rest := []) C hR rfl (Or.inl ⟨513, by decide⟩) kX5_rowOf sX5_rowOf (c_X5_rowOf g rest a J i (by omega)) rfl rfl (by decide +kernel) rfl (by decide) (Nat.le_of_ble_eq_true rfl) rfl ⟨Nat.zero_le _, Nat.zero_le _⟩ ?_
        refine EV_blk (own := 5) C rfl [(.istore 7, 0, 0, 0, 0), (.aload_n 0, 0, 0, 0, 0), (.aload_n 1, 0, 0, 0, 0), (.iload 6, 0, 0, 0, 0), (.iconst 1, 0, 0, 0, (nI 1)), (.isub, 0, 0, 0, 0), (.iload 7, 0, 0, 0, 0), (.iload 4, 0, 0, 0, 0)] (pc' := 67) (by decide +kernel) (lv' := [some (.ref 99), some (.ref 2), some (.int (nI x)), some (.int (nI y)), some (.int t), some (.int (nI i)), some (.int (tq_rem (a 101 i) (nI 11))), some (.int ((a 101 i) / (nI 11)))]) (st' := [.int t, .int ((a 101 i) / (nI 11)), .int ((tq_rem (a 101 i) (nI 11)) - (nI 1)), .ref 2, .ref 99]) (I' := a) (J' := J) rfl ?_
        have hm : tq_rg a := hI
        refine EV_cV (own := 5) (idx := 31) (μ' := mX5_meet) (b := 99) (cb := 5) (av := [.ref 2, .int ((tq_rem (a 101 i) (nI 11)) - (nI 1)), .int ((a 101 i) / (nI 11)), .int t]) (rest := []) C hR rfl (Or.inl ⟨499, by decide⟩) kX5_meet sX5_meet (c_X5_meet g rest a J ((tq_rem (a 101 i) (nI 11)) - (nI 1)) ((a 101 i) / (nI 11)) t hm.2.1 hm.2.2.1 hm.2.2.2.1 hm.2.2.2.2) rfl rfl (by decide +kernel) rfl (by decide) (Nat.le_of_ble_eq_true rfl) rfl ⟨Nat.zero_le _, Nat.zero_le _⟩ ?_
        refine EV_blk (own := 5) C rfl [(.aload_n 0, 0, 0, 0, 0), (.aload_n 1, 0, 0, 0, 0), (.iload 6, 0, 0, 0, 0), (.iconst 1, 0, 0, 0, (nI 1)), (.iadd, 0, 0, 0, 0), (.iload 7, 0, 0, 0, 0), (.iload 4, 0, 0, 0, 0)] (pc' := 80) (by decide +kernel) (lv' := [some (.ref 99), some (.ref 2), some (.int (nI x)), some (.int (nI y)), some (.int t), some (.int (nI i)), some (.int (tq_rem (a 101 i) (nI 11))), some (.int ((a 101 i) / (nI 11)))]) (st' := [.int t, .int ((a 101 i) / (nI 11)), .int ((tq_rem (a 101 i) (nI 11)) + (nI 1)), .ref 2, .ref 99]) (I' := (I_X5_meet a ((tq_rem (a 101 i) (nI 11)) - (nI 1)) ((a 101 i) / (nI 11)) t)) (J' := J) rfl ?_
        have hm : tq_rg (I_X5_meet a ((tq_rem (a 101 i) (nI 11)) - (nI 1)) ((a 101 i) / (nI 11)) t) := tq_rg_meet hI
        refine EV_cV (own := 5) (idx := 31) (μ' := mX5_meet) (b := 99) (cb := 5) (av := [.ref 2, .int ((tq_rem (a 101 i) (nI 11)) + (nI 1)), .int ((a 101 i) / (nI 11)), .int t]) (rest := []) C hR rfl (Or.inl ⟨499, by decide⟩) kX5_meet sX5_meet (c_X5_meet g rest (I_X5_meet a ((tq_rem (a 101 i) (nI 11)) - (nI 1)) ((a 101 i) / (nI 11)) t) J ((tq_rem (a 101 i) (nI 11)) + (nI 1)) ((a 101 i) / (nI 11)) t hm.2.1 hm.2.2.1 hm.2.2.2.1 hm.2.2.2.2) rfl rfl (by decide +kernel) rfl (by decide) (Nat.le_of_ble_eq_true rfl) rfl ⟨Nat.zero_le _, Nat.zero_le _⟩ ?_
        refine EV_blk (own := 5) C rfl [(.aload_n 0, 0, 0, 0, 0), (.aload_n 1, 0, 0, 0, 0), (.iload 6, 0, 0, 0, 0), (.iload 7, 0, 0, 0, 0), (.iconst 1, 0, 0, 0, (nI 1)), (.isub, 0, 0, 0, 0), (.iload 4, 0, 0, 0, 0)] (pc' := 93) (by decide +kernel) (lv' := [some (.ref 99), some (.ref 2), some (.int (nI x)), some (.int (nI y)), some (.int t), some (.int (nI i)), some (.int (tq_rem (a 101 i) (nI 11))), some (.int ((a 101 i) / (nI 11)))]) (st' := [.int t, .int (((a 101 i) / (nI 11)) - (nI 1)), .int (tq_rem (a 101 i) (nI 11)), .ref 2, .ref 99]) (I' := (I_X5_meet (I_X5_meet a ((tq_rem (a 101 i) (nI 11)) - (nI 1)) ((a 101 i) / (nI 11)) t) ((tq_rem (a 101 i) (nI 11)) + (nI 1)) ((a 101 i) / (nI 11)) t)) (J' := J) rfl ?_
        have hm : tq_rg (I_X5_meet (I_X5_meet a ((tq_rem (a 101 i) (nI 11)) - (nI 1)) ((a 101 i) / (nI 11)) t) ((tq_rem (a 101 i) (nI 11)) + (nI 1)) ((a 101 i) / (nI 11)) t) := tq_rg_meet (tq_rg_meet hI)
        refine EV_cV (own := 5) (idx := 31) (μ' := mX5_meet) (b := 99) (cb := 5) (av := [.ref 2, .int (tq_rem (a 101 i) (nI 11)), .int (((a 101 i) / (nI 11)) - (nI 1)), .int t]) (rest := []) C hR rfl (Or.inl ⟨499, by decide⟩) kX5_meet sX5_meet (c_X5_meet g rest (I_X5_meet (I_X5_meet a ((tq_rem (a 101 i) (nI 11)) - (nI 1)) ((a 101 i) / (nI 11)) t) ((tq_rem (a 101 i) (nI 11)) + (nI 1)) ((a 101 i) / (nI 11)) t) J (tq_rem (a 101 i) (nI 11)) (((a 101 i) / (nI 11)) - (nI 1)) t hm.2.1 hm.2.2.1 hm.2.2.2.1 hm.2.2.2.2) rfl rfl (by decide +kernel) rfl (by decide) (Nat.le_of_ble_eq_true rfl) rfl ⟨Nat.zero_le _, Nat.zero_le _⟩ ?_
        refine EV_blk (own := 5) C rfl [(.aload_n 0, 0, 0, 0, 0), (.aload_n 1, 0, 0, 0, 0), (.iload 6, 0, 0, 0, 0), (.iload 7, 0, 0, 0, 0), (.iconst 1, 0, 0, 0, (nI 1)), (.iadd, 0, 0, 0, 0), (.iload 4, 0, 0, 0, 0)] (pc' := 106) (by decide +kernel) (lv' := [some (.ref 99), some (.ref 2), some (.int (nI x)), some (.int (nI y)), some (.int t), some (.int (nI i)), some (.int (tq_rem (a 101 i) (nI 11))), some (.int ((a 101 i) / (nI 11)))]) (st' := [.int t, .int (((a 101 i) / (nI 11)) + (nI 1)), .int (tq_rem (a 101 i) (nI 11)), .ref 2, .ref 99]) (I' := (I_X5_meet (I_X5_meet (I_X5_meet a ((tq_rem (a 101 i) (nI 11)) - (nI 1)) ((a 101 i) / (nI 11)) t) ((tq_rem (a 101 i) (nI 11)) + (nI 1)) ((a 101 i) / (nI 11)) t) (tq_rem (a 101 i) (nI 11)) (((a 101 i) / (nI 11)) - (nI 1)) t)) (J' := J) rfl ?_
        have hm : tq_rg (I_X5_meet (I_X5_meet (I_X5_meet a ((tq_rem (a 101 i) (nI 11)) - (nI 1)) ((a 101 i) / (nI 11)) t) ((tq_rem (a 101 i) (nI 11)) + (nI 1)) ((a 101 i) / (nI 11)) t) (tq_rem (a 101 i) (nI 11)) (((a 101 i) / (nI 11)) - (nI 1)) t) := tq_rg_meet (tq_rg_meet (tq_rg_meet hI))
        refine EV_cV (own := 5) (idx := 31) (μ' := mX5_meet) (b := 99) (cb := 5) (av := [.ref 2, .int (tq_rem (a 101 i) (nI 11)), .int (((a 101 i) / (nI 11)) + (nI 1)), .int t]) (rest := []) C hR rfl (Or.inl ⟨499, by decide⟩) kX5_meet sX5_meet (c_X5_meet g rest (I_X5_meet (I_X5_meet (I_X5_meet a ((tq_rem (a 101 i) (nI 11)) - (nI 1)) ((a 101 i) / (nI 11)) t) ((tq_rem (a 101 i) (nI 11)) + (nI 1)) ((a 101 i) / (nI 11)) t) (tq_rem (a 101 i) (nI 11)) (((a 101 i) / (nI 11)) - (nI 1)) t) J (tq_rem (a 101 i) (nI 11)) (((a 101 i) / (nI 11)) + (nI 1)) t hm.2.1 hm.2.2.1 hm.2.2.2.1 hm.2.2.2.2) rfl rfl (by decide +kernel) rfl (by decide) (Nat.le_of_ble_eq_true rfl) rfl ⟨Nat.zero_le _, Nat.zero_le _⟩ ?_
        refine EV_blk (own := 5) C rfl [(.iinc 5 1, 0, 0, 0, (nI 1)), (.goto (-87), 0, 0, 0, 0)] (pc' := 25) (by decide +kernel) (lv' := [some (.ref 99), some (.ref 2), some (.int (nI x)), some (.int (nI y)), some (.int t), some (.int ((nI i) + (nI 1))), some (.int (tq_rem (a 101 i) (nI 11))), some (.int ((a 101 i) / (nI 11)))]) (st' := []) (I' := (I_X5_meet (I_X5_meet (I_X5_meet (I_X5_meet a ((tq_rem (a 101 i) (nI 11)) - (nI 1)) ((a 101 i) / (nI 11)) t) ((tq_rem (a 101 i) (nI 11)) + (nI 1)) ((a 101 i) / (nI 11)) t) (tq_rem (a 101 i) (nI 11)) (((a 101 i) / (nI 11)) - (nI 1)) t) (tq_rem (a 101 i) (nI 11)) (((a 101 i) / (nI 11)) + (nI 1)) t)) (J' := J) rfl ?_
        refine EV_fg (lv' := [some (.ref 99), some (.ref 2), some (.int (nI x)), some (.int (nI y)), some (.int t), some (.int ((nI i) + (nI 1))), none, none]) ⟨rfl, rfl, rfl, rfl, rfl, rfl, trivial⟩ ?_
        rw [show ((nI i) + (nI 1)) = (nI (i + 1)) from by simp (disch := omega) only [nI_add, tq_mul] <;> exact congrArg nI (by omega)]
        rw [tq_wh_some (show (f_gat1 x y t) i a = some (I_X5_meet (I_X5_meet (I_X5_meet (I_X5_meet a ((tq_rem (a 101 i) (nI 11)) - (nI 1)) ((a 101 i) / (nI 11)) t) ((tq_rem (a 101 i) (nI 11)) + (nI 1)) ((a 101 i) / (nI 11)) t) (tq_rem (a 101 i) (nI 11)) (((a 101 i) / (nI 11)) - (nI 1)) t) (tq_rem (a 101 i) (nI 11)) (((a 101 i) / (nI 11)) + (nI 1)) t) from by simp only [f_gat1, if_neg h1, if_neg h2])] at kk
        exact ih (i + 1) (I_X5_meet (I_X5_meet (I_X5_meet (I_X5_meet a ((tq_rem (a 101 i) (nI 11)) - (nI 1)) ((a 101 i) / (nI 11)) t) ((tq_rem (a 101 i) (nI 11)) + (nI 1)) ((a 101 i) / (nI 11)) t) (tq_rem (a 101 i) (nI 11)) (((a 101 i) / (nI 11)) - (nI 1)) t) (tq_rem (a 101 i) (nI 11)) (((a 101 i) / (nI 11)) + (nI 1)) t) (by omega) (tq_rg_meet (tq_rg_meet (tq_rg_meet (tq_rg_meet hI)))) kk
theorem fr_gat1 (x y : Nat) (t : Int32) {cz : Nat} (hc : cz ≠ 99 ∧ cz ≠ 100 ∧ cz ≠ 101) (n i : Nat) (a : tq_I) (jz : Nat) : (tq_wh (f_gat1 x y t) n i a) cz jz = a cz jz := by
  obtain ⟨hc0, hc1, hc2⟩ := hc
  refine tq_whF (fun i a b j h => ?_) n i a jz
  simp only [f_gat1] at h
  (repeat' split at h) <;> first | (cases h; done) | (cases h; simp (disch := first | assumption | (simp only [ne_eq] at *; simp [*])) [tq_u, tq_cp, hc0, hc1, hc2, fr_tb1, fr_tb2, fr_X8_touchBlock, fr_X8_touchAll, fr_X8_changeCorner, fr_X8_changePath, fr_cb1, fr_cb2, fr_X8_changeBlock, fr_wipe1, fr_X1_wipe, fr_sm1, fr_sm2, fr_X8_startMap, fr_X6_place, fr_mt1, fr_mt2, fr_X6_moveTo, fr_ch2, fr_X10_choose, fr_X1_take, fr_fgt1, fr_X5_forget, fr_X5_meet])
theorem tq_rg_zero {I : tq_I} (h : tq_rg I) : tq_rg (tq_u I 99 2 (nI 0)) := by
  obtain ⟨h1, h2, h3, h4, h5⟩ := h
  exact ⟨h1, by show 0 ≤ (nI 0).toInt; decide, by show (nI 0).toInt ≤ 121; decide, h4, h5⟩
theorem tq_rg_gat {x y : Nat} {t : Int32} {I : tq_I} (h : tq_rg I) : ∀ (n i : Nat), tq_rg (tq_wh (f_gat1 x y t) n i I) := by
  intro n i
  refine tq_whP tq_rg (fun i a b ha hb => ?_) n i I h
  simp only [f_gat1] at hb
  split at hb
  · cases hb
  · cases hb
    exact tq_rg_meet (tq_rg_meet (tq_rg_meet (tq_rg_meet ha)))
def I_X5_gather (I : tq_I) (x y : Nat) : tq_I := (tq_wh (f_gat1 x y ((tq_u I 99 2 (nI 0)) 3 (y * 11 + x))) 121 0 (I_X5_meet (tq_u I 99 2 (nI 0)) (nI x) (nI y) ((tq_u I 99 2 (nI 0)) 3 (y * 11 + x))))
set_option maxRecDepth 20000 in
theorem c_X5_gather (g : tq_G) (rest : List tq_S) (I : tq_I) (J : Int64) (x y : Nat) (hx : x ≤ 10) (hy : y ≤ 10) (hI : tq_rg I) : CT g mX5_gather 3 0 0 [.ref 99, .ref 2, .int (nI x), .int (nI y)] (tq_SC ++ rest) tq_RR I J (tq_ret (tq_SC ++ rest) tq_RR none (I_X5_gather I x y) J) := by
  refine CT.ret kX5_gather (Nat.le_of_ble_eq_true rfl) (fun x0 C hR hZ => ?_)
  refine EV_en (lv' := [some (.ref 99), some (.ref 2), some (.int (nI x)), some (.int (nI y)), none, none, none, none]) 4 rfl ?_
  refine EV_blk (own := 5) C rfl [(.aload_n 0, 0, 0, 0, 0), (.iconst 0, 0, 0, 0, (nI 0)), (.putfield 22, 5, 2, 235, 0), (.aload_n 1, 0, 0, 0, 0), (.iload_n 2, 0, 0, 0, 0), (.iload_n 3, 0, 0, 0, 0)] (pc' := 8) (by decide +kernel) (lv' := [some (.ref 99), some (.ref 2), some (.int (nI x)), some (.int (nI y)), none, none, none, none]) (st' := [.int (nI y), .int (nI x), .ref 2]) (I' := (tq_u I 99 2 (nI 0))) (J' := J) rfl ?_
  refine EV_cV (own := 5) (idx := 26) (μ' := mX3_terrainAt) (b := 2) (cb := 3) (av := [.int (nI x), .int (nI y)]) (rest := []) C hR rfl (Or.inl ⟨498, by decide⟩) kX3_terrainAt sX3_terrainAt (c_X3_terrainAt g rest (tq_u I 99 2 (nI 0)) J x y (by omega) (by omega)) rfl rfl (by decide +kernel) rfl (by decide) (Nat.le_of_ble_eq_true rfl) rfl ⟨Nat.zero_le _, Nat.zero_le _⟩ ?_
  refine EV_blk (own := 5) C rfl [(.istore 4, 0, 0, 0, 0), (.aload_n 0, 0, 0, 0, 0), (.aload_n 1, 0, 0, 0, 0), (.iload_n 2, 0, 0, 0, 0), (.iload_n 3, 0, 0, 0, 0), (.iload 4, 0, 0, 0, 0)] (pc' := 19) (by decide +kernel) (lv' := [some (.ref 99), some (.ref 2), some (.int (nI x)), some (.int (nI y)), some (.int ((tq_u I 99 2 (nI 0)) 3 (y * 11 + x))), none, none, none]) (st' := [.int ((tq_u I 99 2 (nI 0)) 3 (y * 11 + x)), .int (nI y), .int (nI x), .ref 2, .ref 99]) (I' := (tq_u I 99 2 (nI 0))) (J' := J) rfl ?_
  have hm : tq_rg (tq_u I 99 2 (nI 0)) := tq_rg_zero hI
  refine EV_cV (own := 5) (idx := 31) (μ' := mX5_meet) (b := 99) (cb := 5) (av := [.ref 2, .int (nI x), .int (nI y), .int ((tq_u I 99 2 (nI 0)) 3 (y * 11 + x))]) (rest := []) C hR rfl (Or.inl ⟨499, by decide⟩) kX5_meet sX5_meet (c_X5_meet g rest (tq_u I 99 2 (nI 0)) J (nI x) (nI y) ((tq_u I 99 2 (nI 0)) 3 (y * 11 + x)) hm.2.1 hm.2.2.1 hm.2.2.2.1 hm.2.2.2.2) rfl rfl (by decide +kernel) rfl (by decide) (Nat.le_of_ble_eq_true rfl) rfl ⟨Nat.zero_le _, Nat.zero_le _⟩ ?_
  refine EV_blk (own := 5) C rfl [(.iconst 0, 0, 0, 0, (nI 0)), (.istore 5, 0, 0, 0, 0)] (pc' := 25) (by decide +kernel) (lv' := [some (.ref 99), some (.ref 2), some (.int (nI x)), some (.int (nI y)), some (.int ((tq_u I 99 2 (nI 0)) 3 (y * 11 + x))), some (.int (nI 0)), none, none]) (st' := []) (I' := (I_X5_meet (tq_u I 99 2 (nI 0)) (nI x) (nI y) ((tq_u I 99 2 (nI 0)) 3 (y * 11 + x)))) (J' := J) rfl ?_
  refine lp_gat1 C hR J x y ((tq_u I 99 2 (nI 0)) 3 (y * 11 + x))  121 0 (I_X5_meet (tq_u I 99 2 (nI 0)) (nI x) (nI y) ((tq_u I 99 2 (nI 0)) 3 (y * 11 + x))) (by omega) (tq_rg_meet (tq_rg_zero hI)) ?_
  exact EV_vret C hZ rfl (by decide +kernel) (Nat.le_refl _) (Nat.le_refl _) ⟨rfl, rfl, rfl, by simp only [I_X5_gather], rfl⟩
theorem fr_X5_gather (I : tq_I) (x y : Nat) {cz : Nat} (hc : cz ≠ 99 ∧ cz ≠ 100 ∧ cz ≠ 101) (jz : Nat) : I_X5_gather I x y cz jz = I cz jz := by
  obtain ⟨hc0, hc1, hc2⟩ := hc
  simp only [I_X5_gather]
  (repeat' split) <;> simp (disch := first | assumption | (simp only [ne_eq] at *; simp [*])) [tq_u, tq_cp, hc0, hc1, hc2, fr_tb1, fr_tb2, fr_X8_touchBlock, fr_X8_touchAll, fr_X8_changeCorner, fr_X8_changePath, fr_cb1, fr_cb2, fr_X8_changeBlock, fr_wipe1, fr_X1_wipe, fr_sm1, fr_sm2, fr_X8_startMap, fr_X6_place, fr_mt1, fr_mt2, fr_X6_moveTo, fr_ch2, fr_X10_choose, fr_X1_take, fr_fgt1, fr_X5_forget, fr_X5_meet, fr_gat1]
theorem tq_rg_gather {x y : Nat} {I : tq_I} (h : tq_rg I) : tq_rg (I_X5_gather I x y) := tq_rg_gat (tq_rg_meet (tq_rg_zero h)) _ _
