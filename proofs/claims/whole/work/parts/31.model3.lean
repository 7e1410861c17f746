def r_X12_isMet (I : tq_I) (x y : Int32) (w h : Nat) : Int32 := (if (tq_b (tr_corner I x y)) = 0 then (nI 0) else (if (I 121 (11 * tq_N y + tq_N x)) = 0 then (nI 0) else (nI 1)))
set_option maxRecDepth 20000 in
theorem c_X12_isMet (g : tq_G) (I : tq_I) (J : Int64) (x y : Int32) (w h : Nat) (k : tr_wh I w h) : CT g mX12_isMet 2 0 0 [.ref 117, .int x, .int y] (tq_SC ++ tq_SR) tq_RR I J (tq_ret (tq_SC ++ tq_SR) tq_RR (some (.int (r_X12_isMet I x y w h))) I J) := by
  refine CT.ret kX12_isMet (Nat.le_of_ble_eq_true rfl) (fun x0 C hR hZ => ?_)
  refine EV_en (lv' := [some (.ref 117), some (.int x), some (.int y)]) 0 rfl ?_
  refine EV_blk (own := 12) C rfl [(.aload_n 0, 0, 0, 0, 0), (.iload_n 1, 0, 0, 0, 0), (.iload_n 2, 0, 0, 0, 0)] (pc' := 3) (by decide +kernel) (lv' := [some (.ref 117), some (.int x), some (.int y)]) (st' := [.int y, .int x, .ref 117]) (I' := I) (J' := J) rfl ?_
  refine EV_cV (own := 12) (idx := 87) (μ' := mX12_isCorner) (b := 117) (cb := 12) (av := [.int x, .int y]) (rest := []) C hR rfl (Or.inl ⟨1002, by decide⟩) kX12_isCorner sX12_isCorner (c_X12_isCorner g I J x y ) rfl rfl (by decide +kernel) rfl (by decide) (Nat.le_of_ble_eq_true rfl) rfl ⟨Nat.zero_le _, Nat.zero_le _⟩ ?_
  refine EV_if_eq (off := 21) (tgt := 27) C (by decide +kernel) (by decide) (fun h1 => ?_) (fun h1 => ?_)
  · skip
    refine EV_blk (own := 12) C rfl [(.iconst 0, 0, 0, 0, (nI 0))] (pc' := 28) (by decide +kernel) (lv' := [some (.ref 117), some (.int x), some (.int y)]) (st' := [.int (nI 0)]) (I' := I) (J' := J) rfl ?_
    exact EV_zret C hZ rfl (by decide) (by decide +kernel) (Nat.le_refl _) (Nat.le_refl _) ⟨tq_some (by simp only [r_X12_isMet, if_pos h1]), rfl, rfl, rfl, rfl⟩
  · skip
    have hc := tq_b10 h1
    have hxy := tr_corner.ix k hc
    have hw10 := k.2.2.2.1
    have hh10 := k.2.2.2.2.2
    have hx1 := (k.corner.mp hc).2.1
    have hy1 := (k.corner.mp hc).2.2.2
    refine EV_blk (own := 12) C rfl [(.aload_n 0, 0, 0, 0, 0), (.getfield 19, 12, 6, 905, 0), (.bipush 11, 0, 0, 0, (nI 11)), (.iload_n 2, 0, 0, 0, 0), (.imul, 0, 0, 0, 0), (.iload_n 1, 0, 0, 0, 0), (.iadd, 0, 0, 0, 0)] (pc' := 19) (by decide +kernel) (lv' := [some (.ref 117), some (.int x), some (.int y)]) (st' := [.int (((nI 11) * y) + x), .ref 121]) (I' := I) (J' := J) rfl ?_
    refine EV_zald (j := (11 * tq_N y + tq_N x)) C (by decide +kernel) rfl (tq_ixm 11 hxy.1 (by omega) hxy.2.1 (by omega) (by decide)) (by omega) ?_
    refine EV_if_eq (off := 7) (tgt := 27) C (by decide +kernel) (by decide) (fun h2 => ?_) (fun h2 => ?_)
    · skip
      refine EV_blk (own := 12) C rfl [(.iconst 0, 0, 0, 0, (nI 0))] (pc' := 28) (by decide +kernel) (lv' := [some (.ref 117), some (.int x), some (.int y)]) (st' := [.int (nI 0)]) (I' := I) (J' := J) rfl ?_
      exact EV_zret C hZ rfl (by decide) (by decide +kernel) (Nat.le_refl _) (Nat.le_refl _) ⟨tq_some (by simp only [r_X12_isMet, if_neg h1, if_pos h2]), rfl, rfl, rfl, rfl⟩
    · skip
      refine EV_blk (own := 12) C rfl [(.iconst 1, 0, 0, 0, (nI 1)), (.goto 4, 0, 0, 0, 0)] (pc' := 28) (by decide +kernel) (lv' := [some (.ref 117), some (.int x), some (.int y)]) (st' := [.int (nI 1)]) (I' := I) (J' := J) rfl ?_
      exact EV_zret C hZ rfl (by decide) (by decide +kernel) (Nat.le_refl _) (Nat.le_refl _) ⟨tq_some (by simp only [r_X12_isMet, if_neg h1, if_neg h2]), rfl, rfl, rfl, rfl⟩
def f_fg1  (i : Nat) (a : tq_I) : tq_I := (tq_u a 121 i (nI 0))
set_option maxRecDepth 20000 in
theorem lp_fg1 {g : tq_G} {x0 : tq_X} (C : tq_C g mX12_forgets x0) (hR : tq_ht x0 0 0 0) (J : Int64)   : ∀ (n i : Nat) (a : tq_I), i + n = 121 → EV g mX12_forgets x0 0 0 21 [some (.ref 117), some (.int (nI (i + n)))] [] (tq_SC ++ tq_SR) tq_RR (tq_it (f_fg1) n i a) J → EV g mX12_forgets x0 0 0 2 [some (.ref 117), some (.int (nI i))] [] (tq_SC ++ tq_SR) tq_RR a J := by
  intro n
  induction n with
  | zero =>
    intro i a hi kk
    rw [Nat.add_zero] at kk
    refine EV_blk (own := 12) C rfl [(.iload_n 1, 0, 0, 0, 0), (.bipush 121, 0, 0, 0, (nI 121))] (pc' := 5) (by decide +kernel) (lv' := [some (.ref 117), some (.int (nI i))]) (st' := [.int (nI 121), .int (nI i)]) (I' := a) (J' := J) rfl ?_
    refine EV_icmp_ge (off := 16) (tgt := 21) C (by decide +kernel) (by decide) (fun h1 => ?_) (fun h1 => ?_)
    · skip
      exact kk
    · skip
      exact absurd h1 (by simp (disch := omega) only [Int32.lt_iff_toInt_lt, Int32.le_iff_toInt_le, Int32.toInt_zero, nI_toInt, tq_m1]; omega)
  | succ n ih =>
    intro i a hi kk
    rw [show i + (n + 1) = (i + 1) + n by omega] at kk
    refine EV_blk (own := 12) C rfl [(.iload_n 1, 0, 0, 0, 0), (.bipush 121, 0, 0, 0, (nI 121))] (pc' := 5) (by decide +kernel) (lv' := [some (.ref 117), some (.int (nI i))]) (st' := [.int (nI 121), .int (nI i)]) (I' := a) (J' := J) rfl ?_
    refine EV_icmp_ge (off := 16) (tgt := 21) C (by decide +kernel) (by decide) (fun h1 => ?_) (fun h1 => ?_)
    · skip
      exact absurd h1 (by simp (disch := omega) only [Int32.lt_iff_toInt_lt, Int32.le_iff_toInt_le, Int32.toInt_zero, nI_toInt, tq_m1]; omega)
    · skip
      refine EV_blk (own := 12) C rfl [(.aload_n 0, 0, 0, 0, 0), (.getfield 19, 12, 6, 905, 0), (.iload_n 1, 0, 0, 0, 0), (.iconst 0, 0, 0, 0, (nI 0))] (pc' := 14) (by decide +kernel) (lv' := [some (.ref 117), some (.int (nI i))]) (st' := [.int (nI 0), .int (nI i), .ref 121]) (I' := a) (J' := J) rfl ?_
      refine EV_zast (j := i) C (by decide +kernel) rfl (nI_toInt (by omega)) (by omega) (by decide) ?_
      refine EV_blk (own := 12) C rfl [(.iinc 1 1, 0, 0, 0, (nI 1)), (.goto (-16), 0, 0, 0, 0)] (pc' := 2) (by decide +kernel) (lv' := [some (.ref 117), some (.int ((nI i) + (nI 1)))]) (st' := []) (I' := (tq_u a 121 i (nI 0))) (J' := J) rfl ?_
      rw [show ((nI i) + (nI 1)) = (nI (i + 1)) from by simp (disch := omega) only [nI_add, tq_mul] <;> exact congrArg nI (by omega)]
      rw [tq_its, show (f_fg1) i a = (tq_u a 121 i (nI 0)) from by simp only [f_fg1, if_neg h1]] at kk
      exact ih (i + 1) (tq_u a 121 i (nI 0)) (by omega) kk
theorem fr_fg1  {cz : Nat} (hc : cz ≠ 121) (n i : Nat) (a : tq_I) (jz : Nat) : (tq_it (f_fg1) n i a) cz jz = a cz jz := by
  have hc0 := hc
  refine tq_itF (fun i a j => ?_) n i a jz
  simp only [f_fg1]
  (repeat' split) <;> simp (disch := first | assumption | (simp only [ne_eq] at *; simp [*])) [tq_u, tq_cp, hc0, fr_X12_touches, fr_ta1, fr_X12_touchesAll, fr_cps1, fr_X12_copies, fr_sav, fr_bg1, fr_bg2, fr_X12_begins, fr_ly1, fr_X12_lays, fr_bgn1, fr_X12_begin, fr_X12_setCorner, fr_fi1, fr_X12_fill]
def I_X12_forgets (I : tq_I)  : tq_I := (tq_it (f_fg1) 121 0 I)
set_option maxRecDepth 20000 in
theorem c_X12_forgets (g : tq_G) (I : tq_I) (J : Int64)   : CT g mX12_forgets 0 0 0 [.ref 117] (tq_SC ++ tq_SR) tq_RR I J (tq_ret (tq_SC ++ tq_SR) tq_RR none (I_X12_forgets I) J) := by
  refine CT.ret kX12_forgets (Nat.le_of_ble_eq_true rfl) (fun x0 C hR hZ => ?_)
  refine EV_en (lv' := [some (.ref 117), none]) 1 rfl ?_
  refine EV_blk (own := 12) C rfl [(.iconst 0, 0, 0, 0, (nI 0)), (.istore_n 1, 0, 0, 0, 0)] (pc' := 2) (by decide +kernel) (lv' := [some (.ref 117), some (.int (nI 0))]) (st' := []) (I' := I) (J' := J) rfl ?_
  refine lp_fg1 C hR J  121 0 I (by omega) ?_
  exact EV_vret C hZ rfl (by decide +kernel) (Nat.le_refl _) (Nat.le_refl _) ⟨rfl, rfl, rfl, by simp only [I_X12_forgets], rfl⟩
theorem fr_X12_forgets (I : tq_I)  {cz : Nat} (hc : cz ≠ 121) (jz : Nat) : I_X12_forgets I  cz jz = I cz jz := by
  have hc0 := hc
  simp only [I_X12_forgets]
  (repeat' split) <;> simp (disch := first | assumption | (simp only [ne_eq] at *; simp [*])) [tq_u, tq_cp, hc0, fr_X12_touches, fr_ta1, fr_X12_touchesAll, fr_cps1, fr_X12_copies, fr_sav, fr_bg1, fr_bg2, fr_X12_begins, fr_ly1, fr_X12_lays, fr_bgn1, fr_X12_begin, fr_X12_setCorner, fr_fi1, fr_X12_fill, fr_fg1]
def tr_cnt (f : Nat → Int32) : Nat → Nat
  | 0 => 0
  | n + 1 => tr_cnt f n + (if f n = 0 then 0 else 1)
theorem tr_cnt_le (f : Nat → Int32) : ∀ n, tr_cnt f n ≤ n
  | 0 => Nat.le_refl _
  | n + 1 => by
    have := tr_cnt_le f n
    simp only [tr_cnt]
    split <;> omega
theorem tr_cnt_mono {f g : Nat → Int32} (h : ∀ k, ¬ f k = 0 → ¬ g k = 0) : ∀ n, tr_cnt f n ≤ tr_cnt g n
  | 0 => Nat.le_refl _
  | n + 1 => by
    have h1 := tr_cnt_mono h n
    simp only [tr_cnt]
    by_cases e : f n = 0
    · rw [if_pos e]; split <;> omega
    · rw [if_neg e, if_neg (h n e)]; omega
theorem tr_cnt_lt {f g : Nat → Int32} (h : ∀ k, ¬ f k = 0 → ¬ g k = 0) {j : Nat} (hf : f j = 0) (hg : ¬ g j = 0) : ∀ n, j < n → tr_cnt f n + 1 ≤ tr_cnt g n
  | 0, hj => absurd hj (Nat.not_lt_zero j)
  | n + 1, hj => by
    simp only [tr_cnt]
    by_cases e : j = n
    · subst e
      have h1 := tr_cnt_mono h j
      rw [if_pos hf, if_neg hg]
      omega
    · have h1 := tr_cnt_lt h hf hg n (by omega)
      by_cases e2 : f n = 0
      · rw [if_pos e2]; split <;> omega
      · rw [if_neg e2, if_neg (h n e2)]; omega
def f_rc1 (x y : Nat) (t : Int32) (w h : Nat) (i : Nat) (a : Int32 × tq_I) : Int32 × tq_I := (if (r_X12_isMet a.2 ((nI (i % 11)) - (nI 1)) (nI (i / 11)) w h) = 0 then (if (r_X12_isMet a.2 (nI ((i % 11) + 1)) (nI (i / 11)) w h) = 0 then (if (r_X12_isMet a.2 (nI (i % 11)) ((nI (i / 11)) - (nI 1)) w h) = 0 then (if (r_X12_isMet a.2 (nI (i % 11)) (nI ((i / 11) + 1)) w h) = 0 then (a.1, a.2) else (if (tq_b (tr_corner a.2 (nI (i % 11)) (nI (i / 11)))) = 0 then (a.1, a.2) else (if (a.2 121 i) = 0 then (if (a.2 118 (22 + 11 * (i / 11) + (i % 11))) = t then ((nI 1), (tq_u a.2 121 i (nI 1))) else (a.1, a.2)) else (a.1, a.2)))) else (if (tq_b (tr_corner a.2 (nI (i % 11)) (nI (i / 11)))) = 0 then (a.1, a.2) else (if (a.2 121 i) = 0 then (if (a.2 118 (22 + 11 * (i / 11) + (i % 11))) = t then ((nI 1), (tq_u a.2 121 i (nI 1))) else (a.1, a.2)) else (a.1, a.2)))) else (if (tq_b (tr_corner a.2 (nI (i % 11)) (nI (i / 11)))) = 0 then (a.1, a.2) else (if (a.2 121 i) = 0 then (if (a.2 118 (22 + 11 * (i / 11) + (i % 11))) = t then ((nI 1), (tq_u a.2 121 i (nI 1))) else (a.1, a.2)) else (a.1, a.2)))) else (if (tq_b (tr_corner a.2 (nI (i % 11)) (nI (i / 11)))) = 0 then (a.1, a.2) else (if (a.2 121 i) = 0 then (if (a.2 118 (22 + 11 * (i / 11) + (i % 11))) = t then ((nI 1), (tq_u a.2 121 i (nI 1))) else (a.1, a.2)) else (a.1, a.2))))
set_option maxRecDepth 20000 in
theorem lp_rc1 {g : tq_G} {x0 : tq_X} (C : tq_C g mX12_reaches x0) (hR : tq_ht x0 3 0 0) (J : Int64) (x y : Nat) (t : Int32) (w h : Nat)  : ∀ (n i : Nat) (a : Int32 × tq_I), i + n = 121 → tr_wh a.2 w h → EV g mX12_reaches x0 0 0 168 [some (.ref 117), some (.int (nI x)), some (.int (nI y)), some (.int t), some (.int ((tq_it (f_rc1 x y t w h) n i a).1)), some (.int (nI (i + n))), none, none, none] [] (tq_SC ++ tq_SR) tq_RR ((tq_it (f_rc1 x y t w h) n i a).2) J → EV g mX12_reaches x0 0 0 33 [some (.ref 117), some (.int (nI x)), some (.int (nI y)), some (.int t), some (.int a.1), some (.int (nI i)), none, none, none] [] (tq_SC ++ tq_SR) tq_RR a.2 J := by
  intro n
  induction n with
  | zero =>
    intro i a hi hI kk
    rw [Nat.add_zero] at kk
    refine EV_blk (own := 12) C rfl [(.iload 5, 0, 0, 0, 0), (.bipush 121, 0, 0, 0, (nI 121))] (pc' := 37) (by decide +kernel) (lv' := [some (.ref 117), some (.int (nI x)), some (.int (nI y)), some (.int t), some (.int a.1), some (.int (nI i)), none, none, none]) (st' := [.int (nI 121), .int (nI i)]) (I' := a.2) (J' := J) rfl ?_
    refine EV_icmp_ge (off := 131) (tgt := 168) C (by decide +kernel) (by decide) (fun h1 => ?_) (fun h1 => ?_)
    · skip
      exact kk
    · skip
      exact absurd h1 (by simp (disch := omega) only [Int32.lt_iff_toInt_lt, Int32.le_iff_toInt_le, Int32.toInt_zero, nI_toInt, tq_m1]; omega)
  | succ n ih =>
    intro i a hi hI kk
    rw [show i + (n + 1) = (i + 1) + n by omega] at kk
    refine EV_blk (own := 12) C rfl [(.iload 5, 0, 0, 0, 0), (.bipush 121, 0, 0, 0, (nI 121))] (pc' := 37) (by decide +kernel) (lv' := [some (.ref 117), some (.int (nI x)), some (.int (nI y)), some (.int t), some (.int a.1), some (.int (nI i)), none, none, none]) (st' := [.int (nI 121), .int (nI i)]) (I' := a.2) (J' := J) rfl ?_
    refine EV_icmp_ge (off := 131) (tgt := 168) C (by decide +kernel) (by decide) (fun h1 => ?_) (fun h1 => ?_)
    · skip
      exact absurd h1 (by simp (disch := omega) only [Int32.lt_iff_toInt_lt, Int32.le_iff_toInt_le, Int32.toInt_zero, nI_toInt, tq_m1]; omega)
    · skip
      refine EV_blk (own := 12) C rfl [(.iload 5, 0, 0, 0, 0), (.bipush 11, 0, 0, 0, (nI 11))] (pc' := 44) (by decide +kernel) (lv' := [some (.ref 117), some (.int (nI x)), some (.int (nI y)), some (.int t), some (.int a.1), some (.int (nI i)), none, none, none]) (st' := [.int (nI 11), .int (nI i)]) (I' := a.2) (J' := J) rfl ?_
      refine EV_irem C (by decide +kernel) (by decide) ?_
      refine EV_blk (own := 12) C rfl [(.istore 6, 0, 0, 0, 0), (.iload 5, 0, 0, 0, 0), (.bipush 11, 0, 0, 0, (nI 11))] (pc' := 51) (by decide +kernel) (lv' := [some (.ref 117), some (.int (nI x)), some (.int (nI y)), some (.int t), some (.int a.1), some (.int (nI i)), some (.int (tq_rem (nI i) (nI 11))), none, none]) (st' := [.int (nI 11), .int (nI i)]) (I' := a.2) (J' := J) rfl ?_
      refine EV_idiv C (by decide +kernel) (by decide) ?_
      refine EV_blk (own := 12) C rfl [(.istore 7, 0, 0, 0, 0)] (pc' := 54) (by decide +kernel) (lv' := [some (.ref 117), some (.int (nI x)), some (.int (nI y)), some (.int t), some (.int a.1), some (.int (nI i)), some (.int (tq_rem (nI i) (nI 11))), some (.int ((nI i) / (nI 11))), none]) (st' := []) (I' := a.2) (J' := J) rfl ?_
      refine EV_lve (lv' := [some (.ref 117), some (.int (nI x)), some (.int (nI y)), some (.int t), some (.int a.1), some (.int (nI i)), some (.int (nI (i % 11))), some (.int (nI (i / 11))), none]) (by simp (disch := omega) only [tq_rem_nI, tq_div_nI]) ?_
      refine EV_blk (own := 12) C rfl [(.aload_n 0, 0, 0, 0, 0), (.iload 6, 0, 0, 0, 0), (.iconst 1, 0, 0, 0, (nI 1)), (.isub, 0, 0, 0, 0), (.iload 7, 0, 0, 0, 0)] (pc' := 61) (by decide +kernel) (lv' := [some (.ref 117), some (.int (nI x)), some (.int (nI y)), some (.int t), some (.int a.1), some (.int (nI i)), some (.int (nI (i % 11))), some (.int (nI (i / 11))), none]) (st' := [.int (nI (i / 11)), .int ((nI (i % 11)) - (nI 1)), .ref 117]) (I' := a.2) (J' := J) rfl ?_
      refine EV_cV (own := 12) (idx := 94) (μ' := mX12_isMet) (b := 117) (cb := 12) (av := [.int ((nI (i % 11)) - (nI 1)), .int (nI (i / 11))]) (rest := []) C hR rfl (Or.inl ⟨1034, by decide⟩) kX12_isMet sX12_isMet (c_X12_isMet g a.2 J ((nI (i % 11)) - (nI 1)) (nI (i / 11)) w h hI) rfl rfl (by decide +kernel) rfl (by decide) (Nat.le_of_ble_eq_true rfl) rfl ⟨Nat.zero_le _, Nat.zero_le _⟩ ?_
      refine EV_if_ne (off := 42) (tgt := 106) C (by decide +kernel) (by decide) (fun h2 => ?_) (fun h2 => ?_)
      · skip
        refine EV_blk (own := 12) C rfl [(.iconst 1, 0, 0, 0, (nI 1)), (.goto 4, 0, 0, 0, 0), (.istore 8, 0, 0, 0, 0), (.iload 8, 0, 0, 0, 0)] (pc' := 115) (by decide +kernel) (lv' := [some (.ref 117), some (.int (nI x)), some (.int (nI y)), some (.int t), some (.int a.1), some (.int (nI i)), some (.int (nI (i % 11))), some (.int (nI (i / 11))), some (.int (nI 1))]) (st' := [.int (nI 1)]) (I' := a.2) (J' := J) rfl ?_
        refine EV_if_eq (off := 47) (tgt := 162) C (by decide +kernel) (by decide) (fun h3 => ?_) (fun h3 => ?_)
        · skip
          exact absurd h3 (by decide)
        · skip
          refine EV_blk (own := 12) C rfl [(.aload_n 0, 0, 0, 0, 0), (.iload 6, 0, 0, 0, 0), (.iload 7, 0, 0, 0, 0)] (pc' := 123) (by decide +kernel) (lv' := [some (.ref 117), some (.int (nI x)), some (.int (nI y)), some (.int t), some (.int a.1), some (.int (nI i)), some (.int (nI (i % 11))), some (.int (nI (i / 11))), some (.int (nI 1))]) (st' := [.int (nI (i / 11)), .int (nI (i % 11)), .ref 117]) (I' := a.2) (J' := J) rfl ?_
          refine EV_cV (own := 12) (idx := 87) (μ' := mX12_isCorner) (b := 117) (cb := 12) (av := [.int (nI (i % 11)), .int (nI (i / 11))]) (rest := []) C hR rfl (Or.inl ⟨1002, by decide⟩) kX12_isCorner sX12_isCorner (c_X12_isCorner g a.2 J (nI (i % 11)) (nI (i / 11)) ) rfl rfl (by decide +kernel) rfl (by decide) (Nat.le_of_ble_eq_true rfl) rfl ⟨Nat.zero_le _, Nat.zero_le _⟩ ?_
          refine EV_if_eq (off := 36) (tgt := 162) C (by decide +kernel) (by decide) (fun h4 => ?_) (fun h4 => ?_)
          · skip
            refine EV_blk (own := 12) C rfl [(.iinc 5 1, 0, 0, 0, (nI 1)), (.goto (-132), 0, 0, 0, 0)] (pc' := 33) (by decide +kernel) (lv' := [some (.ref 117), some (.int (nI x)), some (.int (nI y)), some (.int t), some (.int a.1), some (.int ((nI i) + (nI 1))), some (.int (nI (i % 11))), some (.int (nI (i / 11))), some (.int (nI 1))]) (st' := []) (I' := a.2) (J' := J) rfl ?_
            refine EV_fg (lv' := [some (.ref 117), some (.int (nI x)), some (.int (nI y)), some (.int t), some (.int a.1), some (.int ((nI i) + (nI 1))), none, none, none]) ⟨rfl, rfl, rfl, rfl, rfl, rfl, trivial⟩ ?_
            rw [show ((nI i) + (nI 1)) = (nI (i + 1)) from by simp (disch := omega) only [nI_add, tq_mul] <;> exact congrArg nI (by omega)]
            rw [tq_its, show (f_rc1 x y t w h) i a = (a.1, a.2) from by simp only [f_rc1, if_neg h1, if_neg h2, if_neg h3, if_pos h4]] at kk
            have ihx := ih (i + 1) (a.1, a.2) (by omega)
            dsimp only at ihx
            exact ihx hI kk
          · skip
            refine EV_blk (own := 12) C rfl [(.aload_n 0, 0, 0, 0, 0), (.getfield 19, 12, 6, 905, 0), (.iload 5, 0, 0, 0, 0)] (pc' := 135) (by decide +kernel) (lv' := [some (.ref 117), some (.int (nI x)), some (.int (nI y)), some (.int t), some (.int a.1), some (.int (nI i)), some (.int (nI (i % 11))), some (.int (nI (i / 11))), some (.int (nI 1))]) (st' := [.int (nI i), .ref 121]) (I' := a.2) (J' := J) rfl ?_
            refine EV_zald (j := i) C (by decide +kernel) rfl (nI_toInt (by omega)) (by omega) ?_
            refine EV_if_ne (off := 26) (tgt := 162) C (by decide +kernel) (by decide) (fun h5 => ?_) (fun h5 => ?_)
            · skip
              refine EV_blk (own := 12) C rfl [(.iinc 5 1, 0, 0, 0, (nI 1)), (.goto (-132), 0, 0, 0, 0)] (pc' := 33) (by decide +kernel) (lv' := [some (.ref 117), some (.int (nI x)), some (.int (nI y)), some (.int t), some (.int a.1), some (.int ((nI i) + (nI 1))), some (.int (nI (i % 11))), some (.int (nI (i / 11))), some (.int (nI 1))]) (st' := []) (I' := a.2) (J' := J) rfl ?_
              refine EV_fg (lv' := [some (.ref 117), some (.int (nI x)), some (.int (nI y)), some (.int t), some (.int a.1), some (.int ((nI i) + (nI 1))), none, none, none]) ⟨rfl, rfl, rfl, rfl, rfl, rfl, trivial⟩ ?_
              rw [show ((nI i) + (nI 1)) = (nI (i + 1)) from by simp (disch := omega) only [nI_add, tq_mul] <;> exact congrArg nI (by omega)]
              rw [tq_its, show (f_rc1 x y t w h) i a = (a.1, a.2) from by simp only [f_rc1, if_neg h1, if_neg h2, if_neg h3, if_neg h4, if_neg h5]] at kk
              have ihx := ih (i + 1) (a.1, a.2) (by omega)
              dsimp only at ihx
              exact ihx hI kk
            · skip
              refine EV_blk (own := 12) C rfl [(.aload_n 0, 0, 0, 0, 0), (.iload 6, 0, 0, 0, 0), (.iload 7, 0, 0, 0, 0)] (pc' := 144) (by decide +kernel) (lv' := [some (.ref 117), some (.int (nI x)), some (.int (nI y)), some (.int t), some (.int a.1), some (.int (nI i)), some (.int (nI (i % 11))), some (.int (nI (i / 11))), some (.int (nI 1))]) (st' := [.int (nI (i / 11)), .int (nI (i % 11)), .ref 117]) (I' := a.2) (J' := J) rfl ?_
              refine EV_cV (own := 12) (idx := 76) (μ' := mX12_cornerOf) (b := 117) (cb := 12) (av := [.int (nI (i % 11)), .int (nI (i / 11))]) (rest := []) C hR rfl (Or.inl ⟨1006, by decide⟩) kX12_cornerOf sX12_cornerOf (c_X12_cornerOf g a.2 J (i % 11) (i / 11) (by omega) (by omega)) rfl rfl (by decide +kernel) rfl (by decide) (Nat.le_of_ble_eq_true rfl) rfl ⟨Nat.zero_le _, Nat.zero_le _⟩ ?_
              refine EV_blk (own := 12) C rfl [(.iload_n 3, 0, 0, 0, 0)] (pc' := 148) (by decide +kernel) (lv' := [some (.ref 117), some (.int (nI x)), some (.int (nI y)), some (.int t), some (.int a.1), some (.int (nI i)), some (.int (nI (i % 11))), some (.int (nI (i / 11))), some (.int (nI 1))]) (st' := [.int t, .int (a.2 118 (22 + 11 * (i / 11) + (i % 11)))]) (I' := a.2) (J' := J) rfl ?_
              refine EV_icmp_ne (off := 14) (tgt := 162) C (by decide +kernel) (by decide) (fun h6 => ?_) (fun h6 => ?_)
              · skip
                refine EV_blk (own := 12) C rfl [(.iinc 5 1, 0, 0, 0, (nI 1)), (.goto (-132), 0, 0, 0, 0)] (pc' := 33) (by decide +kernel) (lv' := [some (.ref 117), some (.int (nI x)), some (.int (nI y)), some (.int t), some (.int a.1), some (.int ((nI i) + (nI 1))), some (.int (nI (i % 11))), some (.int (nI (i / 11))), some (.int (nI 1))]) (st' := []) (I' := a.2) (J' := J) rfl ?_
                refine EV_fg (lv' := [some (.ref 117), some (.int (nI x)), some (.int (nI y)), some (.int t), some (.int a.1), some (.int ((nI i) + (nI 1))), none, none, none]) ⟨rfl, rfl, rfl, rfl, rfl, rfl, trivial⟩ ?_
                rw [show ((nI i) + (nI 1)) = (nI (i + 1)) from by simp (disch := omega) only [nI_add, tq_mul] <;> exact congrArg nI (by omega)]
                rw [tq_its, show (f_rc1 x y t w h) i a = (a.1, a.2) from by simp only [f_rc1, if_neg h1, if_neg h2, if_neg h3, if_neg h4, if_pos h5, if_neg h6]] at kk
                have ihx := ih (i + 1) (a.1, a.2) (by omega)
                dsimp only at ihx
                exact ihx hI kk
              · skip
                refine EV_blk (own := 12) C rfl [(.aload_n 0, 0, 0, 0, 0), (.getfield 19, 12, 6, 905, 0), (.iload 5, 0, 0, 0, 0), (.iconst 1, 0, 0, 0, (nI 1))] (pc' := 158) (by decide +kernel) (lv' := [some (.ref 117), some (.int (nI x)), some (.int (nI y)), some (.int t), some (.int a.1), some (.int (nI i)), some (.int (nI (i % 11))), some (.int (nI (i / 11))), some (.int (nI 1))]) (st' := [.int (nI 1), .int (nI i), .ref 121]) (I' := a.2) (J' := J) rfl ?_
                refine EV_zast (j := i) C (by decide +kernel) rfl (nI_toInt (by omega)) (by omega) (by decide) ?_
                refine EV_blk (own := 12) C rfl [(.iconst 1, 0, 0, 0, (nI 1)), (.istore 4, 0, 0, 0, 0), (.iinc 5 1, 0, 0, 0, (nI 1)), (.goto (-132), 0, 0, 0, 0)] (pc' := 33) (by decide +kernel) (lv' := [some (.ref 117), some (.int (nI x)), some (.int (nI y)), some (.int t), some (.int (nI 1)), some (.int ((nI i) + (nI 1))), some (.int (nI (i % 11))), some (.int (nI (i / 11))), some (.int (nI 1))]) (st' := []) (I' := (tq_u a.2 121 i (nI 1))) (J' := J) rfl ?_
                refine EV_fg (lv' := [some (.ref 117), some (.int (nI x)), some (.int (nI y)), some (.int t), some (.int (nI 1)), some (.int ((nI i) + (nI 1))), none, none, none]) ⟨rfl, rfl, rfl, rfl, rfl, rfl, trivial⟩ ?_
                rw [show ((nI i) + (nI 1)) = (nI (i + 1)) from by simp (disch := omega) only [nI_add, tq_mul] <;> exact congrArg nI (by omega)]
                rw [tq_its, show (f_rc1 x y t w h) i a = ((nI 1), (tq_u a.2 121 i (nI 1))) from by simp only [f_rc1, if_neg h1, if_neg h2, if_neg h3, if_neg h4, if_pos h5, if_pos h6]] at kk
                have ihx := ih (i + 1) ((nI 1), (tq_u a.2 121 i (nI 1))) (by omega)
                dsimp only at ihx
                exact ihx (hI.cong (tq_u_cell (by decide)) (tq_u_cell (by decide))) kk
      · skip
        refine EV_blk (own := 12) C rfl [(.aload_n 0, 0, 0, 0, 0), (.iload 6, 0, 0, 0, 0), (.iconst 1, 0, 0, 0, (nI 1)), (.iadd, 0, 0, 0, 0), (.iload 7, 0, 0, 0, 0)] (pc' := 74) (by decide +kernel) (lv' := [some (.ref 117), some (.int (nI x)), some (.int (nI y)), some (.int t), some (.int a.1), some (.int (nI i)), some (.int (nI (i % 11))), some (.int (nI (i / 11))), none]) (st' := [.int (nI (i / 11)), .int ((nI (i % 11)) + (nI 1)), .ref 117]) (I' := a.2) (J' := J) rfl ?_
        rw [show ((nI (i % 11)) + (nI 1)) = (nI ((i % 11) + 1)) from by simp (disch := omega) only [nI_add, tq_mul, tq_rem_nI, tq_div_nI, tq_sub_nI]]
        refine EV_cV (own := 12) (idx := 94) (μ' := mX12_isMet) (b := 117) (cb := 12) (av := [.int (nI ((i % 11) + 1)), .int (nI (i / 11))]) (rest := []) C hR rfl (Or.inl ⟨1034, by decide⟩) kX12_isMet sX12_isMet (c_X12_isMet g a.2 J (nI ((i % 11) + 1)) (nI (i / 11)) w h hI) rfl rfl (by decide +kernel) rfl (by decide) (Nat.le_of_ble_eq_true rfl) rfl ⟨Nat.zero_le _, Nat.zero_le _⟩ ?_
        refine EV_if_ne (off := 29) (tgt := 106) C (by decide +kernel) (by decide) (fun h7 => ?_) (fun h7 => ?_)
        · skip
          refine EV_blk (own := 12) C rfl [(.iconst 1, 0, 0, 0, (nI 1)), (.goto 4, 0, 0, 0, 0), (.istore 8, 0, 0, 0, 0), (.iload 8, 0, 0, 0, 0)] (pc' := 115) (by decide +kernel) (lv' := [some (.ref 117), some (.int (nI x)), some (.int (nI y)), some (.int t), some (.int a.1), some (.int (nI i)), some (.int (nI (i % 11))), some (.int (nI (i / 11))), some (.int (nI 1))]) (st' := [.int (nI 1)]) (I' := a.2) (J' := J) rfl ?_
          refine EV_if_eq (off := 47) (tgt := 162) C (by decide +kernel) (by decide) (fun h8 => ?_) (fun h8 => ?_)
          · skip
            exact absurd h8 (by decide)
          · skip
            refine EV_blk (own := 12) C rfl [(.aload_n 0, 0, 0, 0, 0), (.iload 6, 0, 0, 0, 0), (.iload 7, 0, 0, 0, 0)] (pc' := 123) (by decide +kernel) (lv' := [some (.ref 117), some (.int (nI x)), some (.int (nI y)), some (.int t), some (.int a.1), some (.int (nI i)), some (.int (nI (i % 11))), some (.int (nI (i / 11))), some (.int (nI 1))]) (st' := [.int (nI (i / 11)), .int (nI (i % 11)), .ref 117]) (I' := a.2) (J' := J) rfl ?_
            refine EV_cV (own := 12) (idx := 87) (μ' := mX12_isCorner) (b := 117) (cb := 12) (av := [.int (nI (i % 11)), .int (nI (i / 11))]) (rest := []) C hR rfl (Or.inl ⟨1002, by decide⟩) kX12_isCorner sX12_isCorner (c_X12_isCorner g a.2 J (nI (i % 11)) (nI (i / 11)) ) rfl rfl (by decide +kernel) rfl (by decide) (Nat.le_of_ble_eq_true rfl) rfl ⟨Nat.zero_le _, Nat.zero_le _⟩ ?_
            refine EV_if_eq (off := 36) (tgt := 162) C (by decide +kernel) (by decide) (fun h9 => ?_) (fun h9 => ?_)
            · skip
              refine EV_blk (own := 12) C rfl [(.iinc 5 1, 0, 0, 0, (nI 1)), (.goto (-132), 0, 0, 0, 0)] (pc' := 33) (by decide +kernel) (lv' := [some (.ref 117), some (.int (nI x)), some (.int (nI y)), some (.int t), some (.int a.1), some (.int ((nI i) + (nI 1))), some (.int (nI (i % 11))), some (.int (nI (i / 11))), some (.int (nI 1))]) (st' := []) (I' := a.2) (J' := J) rfl ?_
              refine EV_fg (lv' := [some (.ref 117), some (.int (nI x)), some (.int (nI y)), some (.int t), some (.int a.1), some (.int ((nI i) + (nI 1))), none, none, none]) ⟨rfl, rfl, rfl, rfl, rfl, rfl, trivial⟩ ?_
              rw [show ((nI i) + (nI 1)) = (nI (i + 1)) from by simp (disch := omega) only [nI_add, tq_mul] <;> exact congrArg nI (by omega)]
              rw [tq_its, show (f_rc1 x y t w h) i a = (a.1, a.2) from by simp only [f_rc1, if_neg h1, if_pos h2, if_neg h7, if_neg h8, if_pos h9]] at kk
              have ihx := ih (i + 1) (a.1, a.2) (by omega)
              dsimp only at ihx
              exact ihx hI kk
            · skip
              refine EV_blk (own := 12) C rfl [(.aload_n 0, 0, 0, 0, 0), (.getfield 19, 12, 6, 905, 0), (.iload 5, 0, 0, 0, 0)] (pc' := 135) (by decide +kernel) (lv' := [some (.ref 117), some (.int (nI x)), some (.int (nI y)), some (.int t), some (.int a.1), some (.int (nI i)), some (.int (nI (i % 11))), some (.int (nI (i / 11))), some (.int (nI 1))]) (st' := [.int (nI i), .ref 121]) (I' := a.2) (J' := J) rfl ?_
              refine EV_zald (j := i) C (by decide +kernel) rfl (nI_toInt (by omega)) (by omega) ?_
              refine EV_if_ne (off := 26) (tgt := 162) C (by decide +kernel) (by decide) (fun h10 => ?_) (fun h10 => ?_)
              · skip
                refine EV_blk (own := 12) C rfl [(.iinc 5 1, 0, 0, 0, (nI 1)), (.goto (-132), 0, 0, 0, 0)] (pc' := 33) (by decide +kernel) (lv' := [some (.ref 117), some (.int (nI x)), some (.int (nI y)), some (.int t), some (.int a.1), some (.int ((nI i) + (nI 1))), some (.int (nI (i % 11))), some (.int (nI (i / 11))), some (.int (nI 1))]) (st' := []) (I' := a.2) (J' := J) rfl ?_
                refine EV_fg (lv' := [some (.ref 117), some (.int (nI x)), some (.int (nI y)), some (.int t), some (.int a.1), some (.int ((nI i) + (nI 1))), none, none, none]) ⟨rfl, rfl, rfl, rfl, rfl, rfl, trivial⟩ ?_
                rw [show ((nI i) + (nI 1)) = (nI (i + 1)) from by simp (disch := omega) only [nI_add, tq_mul] <;> exact congrArg nI (by omega)]
                rw [tq_its, show (f_rc1 x y t w h) i a = (a.1, a.2) from by simp only [f_rc1, if_neg h1, if_pos h2, if_neg h7, if_neg h8, if_neg h9, if_neg h10]] at kk
                have ihx := ih (i + 1) (a.1, a.2) (by omega)
                dsimp only at ihx
                exact ihx hI kk
              · skip
                refine EV_blk (own := 12) C rfl [(.aload_n 0, 0, 0, 0, 0), (.iload 6, 0, 0, 0, 0), (.iload 7, 0, 0, 0, 0)] (pc' := 144) (by decide +kernel) (lv' := [some (.ref 117), some (.int (nI x)), some (.int (nI y)), some (.int t), some (.int a.1), some (.int (nI i)), some (.int (nI (i % 11))), some (.int (nI (i / 11))), some (.int (nI 1))]) (st' := [.int (nI (i / 11)), .int (nI (i % 11)), .ref 117]) (I' := a.2) (J' := J) rfl ?_
                refine EV_cV (own := 12) (idx := 76) (μ' := mX12_cornerOf) (b := 117) (cb := 12) (av := [.int (nI (i % 11)), .int (nI (i / 11))]) (rest := []) C hR rfl (Or.inl ⟨1006, by decide⟩) kX12_cornerOf sX12_cornerOf (c_X12_cornerOf g a.2 J (i % 11) (i / 11) (by omega) (by omega)) rfl rfl (by decide +kernel) rfl (by decide) (Nat.le_of_ble_eq_true rfl) rfl ⟨Nat.zero_le _, Nat.zero_le _⟩ ?_
                refine EV_blk (own := 12) C rfl [(.iload_n 3, 0, 0, 0, 0)] (pc' := 148) (by decide +kernel) (lv' := [some (.ref 117), some (.int (nI x)), some (.int (nI y)), some (.int t), some (.int a.1), some (.int (nI i)), some (.int (nI (i % 11))), some (.int (nI (i / 11))), some (.int (nI 1))]) (st' := [.int t, .int (a.2 118 (22 + 11 * (i / 11) + (i % 11)))]) (I' := a.2) (J' := J) rfl ?_
                refine EV_icmp_ne (off := 14) (tgt := 162) C (by decide +kernel) (by decide) (fun h11 => ?_) (fun h11 => ?_)
                · skip
                  refine EV_blk (own := 12) C rfl [(.iinc 5 1, 0, 0, 0, (nI 1)), (.goto (-132), 0, 0, 0, 0)] (pc' := 33) (by decide +kernel) (lv' := [some (.ref 117), some (.int (nI x)), some (.int (nI y)), some (.int t), some (.int a.1), some (.int ((nI i) + (nI 1))), some (.int (nI (i % 11))), some (.int (nI (i / 11))), some (.int (nI 1))]) (st' := []) (I' := a.2) (J' := J) rfl ?_
                  refine EV_fg (lv' := [some (.ref 117), some (.int (nI x)), some (.int (nI y)), some (.int t), some (.int a.1), some (.int ((nI i) + (nI 1))), none, none, none]) ⟨rfl, rfl, rfl, rfl, rfl, rfl, trivial⟩ ?_
                  rw [show ((nI i) + (nI 1)) = (nI (i + 1)) from by simp (disch := omega) only [nI_add, tq_mul] <;> exact congrArg nI (by omega)]
                  rw [tq_its, show (f_rc1 x y t w h) i a = (a.1, a.2) from by simp only [f_rc1, if_neg h1, if_pos h2, if_neg h7, if_neg h8, if_neg h9, if_pos h10, if_neg h11]] at kk
                  have ihx := ih (i + 1) (a.1, a.2) (by omega)
                  dsimp only at ihx
                  exact ihx hI kk
                · skip
                  refine EV_blk (own := 12) C rfl [(.aload_n 0, 0, 0, 0, 0), (.getfield 19, 12, 6, 905, 0), (.iload 5, 0, 0, 0, 0), (.iconst 1, 0, 0, 0, (nI 1))] (pc' := 158) (by decide +kernel) (lv' := [some (.ref 117), some (.int (nI x)), some (.int (nI y)), some (.int t), some (.int a.1), some (.int (nI i)), some (.int (nI (i % 11))), some (.int (nI (i / 11))), some (.int (nI 1))]) (st' := [.int (nI 1), .int (nI i), .ref 121]) (I' := a.2) (J' := J) rfl ?_
                  refine EV_zast (j := i) C (by decide +kernel) rfl (nI_toInt (by omega)) (by omega) (by decide) ?_
                  refine EV_blk (own := 12) C rfl [(.iconst 1, 0, 0, 0, (nI 1)), (.istore 4, 0, 0, 0, 0), (.iinc 5 1, 0, 0, 0, (nI 1)), (.goto (-132), 0, 0, 0, 0)] (pc' := 33) (by decide +kernel) (lv' := [some (.ref 117), some (.int (nI x)), some (.int (nI y)), some (.int t), some (.int (nI 1)), some (.int ((nI i) + (nI 1))), some (.int (nI (i % 11))), some (.int (nI (i / 11))), some (.int (nI 1))]) (st' := []) (I' := (tq_u a.2 121 i (nI 1))) (J' := J) rfl ?_
                  refine EV_fg (lv' := [some (.ref 117), some (.int (nI x)), some (.int (nI y)), some (.int t), some (.int (nI 1)), some (.int ((nI i) + (nI 1))), none, none, none]) ⟨rfl, rfl, rfl, rfl, rfl, rfl, trivial⟩ ?_
                  rw [show ((nI i) + (nI 1)) = (nI (i + 1)) from by simp (disch := omega) only [nI_add, tq_mul] <;> exact congrArg nI (by omega)]
                  rw [tq_its, show (f_rc1 x y t w h) i a = ((nI 1), (tq_u a.2 121 i (nI 1))) from by simp only [f_rc1, if_neg h1, if_pos h2, if_neg h7, if_neg h8, if_neg h9, if_pos h10, if_pos h11]] at kk
                  have ihx := ih (i + 1) ((nI 1), (tq_u a.2 121 i (nI 1))) (by omega)
                  dsimp only at ihx
                  exact ihx (hI.cong (tq_u_cell (by decide)) (tq_u_cell (by decide))) kk
        · skip
          refine EV_blk (own := 12) C rfl [(.aload_n 0, 0, 0, 0, 0), (.iload 6, 0, 0, 0, 0), (.iload 7, 0, 0, 0, 0), (.iconst 1, 0, 0, 0, (nI 1)), (.isub, 0, 0, 0, 0)] (pc' := 87) (by decide +kernel) (lv' := [some (.ref 117), some (.int (nI x)), some (.int (nI y)), some (.int t), some (.int a.1), some (.int (nI i)), some (.int (nI (i % 11))), some (.int (nI (i / 11))), none]) (st' := [.int ((nI (i / 11)) - (nI 1)), .int (nI (i % 11)), .ref 117]) (I' := a.2) (J' := J) rfl ?_
          refine EV_cV (own := 12) (idx := 94) (μ' := mX12_isMet) (b := 117) (cb := 12) (av := [.int (nI (i % 11)), .int ((nI (i / 11)) - (nI 1))]) (rest := []) C hR rfl (Or.inl ⟨1034, by decide⟩) kX12_isMet sX12_isMet (c_X12_isMet g a.2 J (nI (i % 11)) ((nI (i / 11)) - (nI 1)) w h hI) rfl rfl (by decide +kernel) rfl (by decide) (Nat.le_of_ble_eq_true rfl) rfl ⟨Nat.zero_le _, Nat.zero_le _⟩ ?_
          refine EV_if_ne (off := 16) (tgt := 106) C (by decide +kernel) (by decide) (fun h12 => ?_) (fun h12 => ?_)
          · skip
            refine EV_blk (own := 12) C rfl [(.iconst 1, 0, 0, 0, (nI 1)), (.goto 4, 0, 0, 0, 0), (.istore 8, 0, 0, 0, 0), (.iload 8, 0, 0, 0, 0)] (pc' := 115) (by decide +kernel) (lv' := [some (.ref 117), some (.int (nI x)), some (.int (nI y)), some (.int t), some (.int a.1), some (.int (nI i)), some (.int (nI (i % 11))), some (.int (nI (i / 11))), some (.int (nI 1))]) (st' := [.int (nI 1)]) (I' := a.2) (J' := J) rfl ?_
            refine EV_if_eq (off := 47) (tgt := 162) C (by decide +kernel) (by decide) (fun h13 => ?_) (fun h13 => ?_)
            · skip
              exact absurd h13 (by decide)
            · skip
              refine EV_blk (own := 12) C rfl [(.aload_n 0, 0, 0, 0, 0), (.iload 6, 0, 0, 0, 0), (.iload 7, 0, 0, 0, 0)] (pc' := 123) (by decide +kernel) (lv' := [some (.ref 117), some (.int (nI x)), some (.int (nI y)), some (.int t), some (.int a.1), some (.int (nI i)), some (.int (nI (i % 11))), some (.int (nI (i / 11))), some (.int (nI 1))]) (st' := [.int (nI (i / 11)), .int (nI (i % 11)), .ref 117]) (I' := a.2) (J' := J) rfl ?_
              refine EV_cV (own := 12) (idx := 87) (μ' := mX12_isCorner) (b := 117) (cb := 12) (av := [.int (nI (i % 11)), .int (nI (i / 11))]) (rest := []) C hR rfl (Or.inl ⟨1002, by decide⟩) kX12_isCorner sX12_isCorner (c_X12_isCorner g a.2 J (nI (i % 11)) (nI (i / 11)) ) rfl rfl (by decide +kernel) rfl (by decide) (Nat.le_of_ble_eq_true rfl) rfl ⟨Nat.zero_le _, Nat.zero_le _⟩ ?_
              refine EV_if_eq (off := 36) (tgt := 162) C (by decide +kernel) (by decide) (fun h14 => ?_) (fun h14 => ?_)
              · skip
                refine EV_blk (own := 12) C rfl [(.iinc 5 1, 0, 0, 0, (nI 1)), (.goto (-132), 0, 0, 0, 0)] (pc' := 33) (by decide +kernel) (lv' := [some (.ref 117), some (.int (nI x)), some (.int (nI y)), some (.int t), some (.int a.1), some (.int ((nI i) + (nI 1))), some (.int (nI (i % 11))), some (.int (nI (i / 11))), some (.int (nI 1))]) (st' := []) (I' := a.2) (J' := J) rfl ?_
                refine EV_fg (lv' := [some (.ref 117), some (.int (nI x)), some (.int (nI y)), some (.int t), some (.int a.1), some (.int ((nI i) + (nI 1))), none, none, none]) ⟨rfl, rfl, rfl, rfl, rfl, rfl, trivial⟩ ?_
                rw [show ((nI i) + (nI 1)) = (nI (i + 1)) from by simp (disch := omega) only [nI_add, tq_mul] <;> exact congrArg nI (by omega)]
                rw [tq_its, show (f_rc1 x y t w h) i a = (a.1, a.2) from by simp only [f_rc1, if_neg h1, if_pos h2, if_pos h7, if_neg h12, if_neg h13, if_pos h14]] at kk
                have ihx := ih (i + 1) (a.1, a.2) (by omega)
                dsimp only at ihx
                exact ihx hI kk
              · skip
                refine EV_blk (own := 12) C rfl [(.aload_n 0, 0, 0, 0, 0), (.getfield 19, 12, 6, 905, 0), (.iload 5, 0, 0, 0, 0)] (pc' := 135) (by decide +kernel) (lv' := [some (.ref 117), some (.int (nI x)), some (.int (nI y)), some (.int t), some (.int a.1), some (.int (nI i)), some (.int (nI (i % 11))), some (.int (nI (i / 11))), some (.int (nI 1))]) (st' := [.int (nI i), .ref 121]) (I' := a.2) (J' := J) rfl ?_
                refine EV_zald (j := i) C (by decide +kernel) rfl (nI_toInt (by omega)) (by omega) ?_
                refine EV_if_ne (off := 26) (tgt := 162) C (by decide +kernel) (by decide) (fun h15 => ?_) (fun h15 => ?_)
                · skip
                  refine EV_blk (own := 12) C rfl [(.iinc 5 1, 0, 0, 0, (nI 1)), (.goto (-132), 0, 0, 0, 0)] (pc' := 33) (by decide +kernel) (lv' := [some (.ref 117), some (.int (nI x)), some (.int (nI y)), some (.int t), some (.int a.1), some (.int ((nI i) + (nI 1))), some (.int (nI (i % 11))), some (.int (nI (i / 11))), some (.int (nI 1))]) (st' := []) (I' := a.2) (J' := J) rfl ?_
                  refine EV_fg (lv' := [some (.ref 117), some (.int (nI x)), some (.int (nI y)), some (.int t), some (.int a.1), some (.int ((nI i) + (nI 1))), none, none, none]) ⟨rfl, rfl, rfl, rfl, rfl, rfl, trivial⟩ ?_
                  rw [show ((nI i) + (nI 1)) = (nI (i + 1)) from by simp (disch := omega) only [nI_add, tq_mul] <;> exact congrArg nI (by omega)]
                  rw [tq_its, show (f_rc1 x y t w h) i a = (a.1, a.2) from by simp only [f_rc1, if_neg h1, if_pos h2, if_pos h7, if_neg h12, if_neg h13, if_neg h14, if_neg h15]] at kk
                  have ihx := ih (i + 1) (a.1, a.2) (by omega)
                  dsimp only at ihx
                  exact ihx hI kk
                · skip
                  refine EV_blk (own := 12) C rfl [(.aload_n 0, 0, 0, 0, 0), (.iload 6, 0, 0, 0, 0), (.iload 7, 0, 0, 0, 0)] (pc' := 144) (by decide +kernel) (lv' := [some (.ref 117), some (.int (nI x)), some (.int (nI y)), some (.int t), some (.int a.1), some (.int (nI i)), some (.int (nI (i % 11))), some (.int (nI (i / 11))), some (.int (nI 1))]) (st' := [.int (nI (i / 11)), .int (nI (i % 11)), .ref 117]) (I' := a.2) (J' := J) rfl ?_
                  refine EV_cV (own := 12) (idx := 76) (μ' := mX12_cornerOf) (b := 117) (cb := 12) (av := [.int (nI (i % 11)), .int (nI (i / 11))]) (rest := []) C hR rfl (Or.inl ⟨1006, by decide⟩) kX12_cornerOf sX12_cornerOf (c_X12_cornerOf g a.2 J (i % 11) (i / 11) (by omega) (by omega)) rfl rfl (by decide +kernel) rfl (by decide) (Nat.le_of_ble_eq_true rfl) rfl ⟨Nat.zero_le _, Nat.zero_le _⟩ ?_
                  refine EV_blk (own := 12) C rfl [(.iload_n 3, 0, 0, 0, 0)] (pc' := 148) (by decide +kernel) (lv' := [some (.ref 117), some (.int (nI x)), some (.int (nI y)), some (.int t), some (.int a.1), some (.int (nI i)), some (.int (nI (i % 11))), some (.int (nI (i / 11))), some (.int (nI 1))]) (st' := [.int t, .int (a.2 118 (22 + 11 * (i / 11) + (i % 11)))]) (I' := a.2) (J' := J) rfl ?_
                  refine EV_icmp_ne (off := 14) (tgt := 162) C (by decide +kernel) (by decide) (fun h16 => ?_) (fun h16 => ?_)
                  · skip
                    refine EV_blk (own := 12) C rfl [(.iinc 5 1, 0, 0, 0, (nI 1)), (.goto (-132), 0, 0, 0, 0)] (pc' := 33) (by decide +kernel) (lv' := [some (.ref 117), some (.int (nI x)), some (.int (nI y)), some (.int t), some (.int a.1), some (.int ((nI i) + (nI 1))), some (.int (nI (i % 11))), some (.int (nI (i / 11))), some (.int (nI 1))]) (st' := []) (I' := a.2) (J' := J) rfl ?_
                    refine EV_fg (lv' := [some (.ref 117), some (.int (nI x)), some (.int (nI y)), some (.int t), some (.int a.1), some (.int ((nI i) + (nI 1))), none, none, none]) ⟨rfl, rfl, rfl, rfl, rfl, rfl, trivial⟩ ?_
                    rw [show ((nI i) + (nI 1)) = (nI (i + 1)) from by simp (disch := omega) only [nI_add, tq_mul] <;> exact congrArg nI (by omega)]
                    rw [tq_its, show (f_rc1 x y t w h) i a = (a.1, a.2) from by simp only [f_rc1, if_neg h1, if_pos h2, if_pos h7, if_neg h12, if_neg h13, if_neg h14, if_pos h15, if_neg h16]] at kk
                    have ihx := ih (i + 1) (a.1, a.2) (by omega)
                    dsimp only at ihx
                    exact ihx hI kk
                  · skip
                    refine EV_blk (own := 12) C rfl [(.aload_n 0, 0, 0, 0, 0), (.getfield 19, 12, 6, 905, 0), (.iload 5, 0, 0, 0, 0), (.iconst 1, 0, 0, 0, (nI 1))] (pc' := 158) (by decide +kernel) (lv' := [some (.ref 117), some (.int (nI x)), some (.int (nI y)), some (.int t), some (.int a.1), some (.int (nI i)), some (.int (nI (i % 11))), some (.int (nI (i / 11))), some (.int (nI 1))]) (st' := [.int (nI 1), .int (nI i), .ref 121]) (I' := a.2) (J' := J) rfl ?_
                    refine EV_zast (j := i) C (by decide +kernel) rfl (nI_toInt (by omega)) (by omega) (by decide) ?_
                    refine EV_blk (own := 12) C rfl [(.iconst 1, 0, 0, 0, (nI 1)), (.istore 4, 0, 0, 0, 0), (.iinc 5 1, 0, 0, 0, (nI 1)), (.goto (-132), 0, 0, 0, 0)] (pc' := 33) (by decide +kernel) (lv' := [some (.ref 117), some (.int (nI x)), some (.int (nI y)), some (.int t), some (.int (nI 1)), some (.int ((nI i) + (nI 1))), some (.int (nI (i % 11))), some (.int (nI (i / 11))), some (.int (nI 1))]) (st' := []) (I' := (tq_u a.2 121 i (nI 1))) (J' := J) rfl ?_
                    refine EV_fg (lv' := [some (.ref 117), some (.int (nI x)), some (.int (nI y)), some (.int t), some (.int (nI 1)), some (.int ((nI i) + (nI 1))), none, none, none]) ⟨rfl, rfl, rfl, rfl, rfl, rfl, trivial⟩ ?_
                    rw [show ((nI i) + (nI 1)) = (nI (i + 1)) from by simp (disch := omega) only [nI_add, tq_mul] <;> exact congrArg nI (by omega)]
                    rw [tq_its, show (f_rc1 x y t w h) i a = ((nI 1), (tq_u a.2 121 i (nI 1))) from by simp only [f_rc1, if_neg h1, if_pos h2, if_pos h7, if_neg h12, if_neg h13, if_neg h14, if_pos h15, if_pos h16]] at kk
                    have ihx := ih (i + 1) ((nI 1), (tq_u a.2 121 i (nI 1))) (by omega)
                    dsimp only at ihx
                    exact ihx (hI.cong (tq_u_cell (by decide)) (tq_u_cell (by decide))) kk
          · skip
            refine EV_blk (own := 12) C rfl [(.aload_n 0, 0, 0, 0, 0), (.iload 6, 0, 0, 0, 0), (.iload 7, 0, 0, 0, 0), (.iconst 1, 0, 0, 0, (nI 1)), (.iadd, 0, 0, 0, 0)] (pc' := 100) (by decide +kernel) (lv' := [some (.ref 117), some (.int (nI x)), some (.int (nI y)), some (.int t), some (.int a.1), some (.int (nI i)), some (.int (nI (i % 11))), some (.int (nI (i / 11))), none]) (st' := [.int ((nI (i / 11)) + (nI 1)), .int (nI (i % 11)), .ref 117]) (I' := a.2) (J' := J) rfl ?_
            rw [show ((nI (i / 11)) + (nI 1)) = (nI ((i / 11) + 1)) from by simp (disch := omega) only [nI_add, tq_mul, tq_rem_nI, tq_div_nI, tq_sub_nI]]
            refine EV_cV (own := 12) (idx := 94) (μ' := mX12_isMet) (b := 117) (cb := 12) (av := [.int (nI (i % 11)), .int (nI ((i / 11) + 1))]) (rest := []) C hR rfl (Or.inl ⟨1034, by decide⟩) kX12_isMet sX12_isMet (c_X12_isMet g a.2 J (nI (i % 11)) (nI ((i / 11) + 1)) w h hI) rfl rfl (by decide +kernel) rfl (by decide) (Nat.le_of_ble_eq_true rfl) rfl ⟨Nat.zero_le _, Nat.zero_le _⟩ ?_
            refine EV_if_eq (off := 7) (tgt := 110) C (by decide +kernel) (by decide) (fun h17 => ?_) (fun h17 => ?_)
            · skip
              refine EV_blk (own := 12) C rfl [(.iconst 0, 0, 0, 0, (nI 0)), (.istore 8, 0, 0, 0, 0), (.iload 8, 0, 0, 0, 0)] (pc' := 115) (by decide +kernel) (lv' := [some (.ref 117), some (.int (nI x)), some (.int (nI y)), some (.int t), some (.int a.1), some (.int (nI i)), some (.int (nI (i % 11))), some (.int (nI (i / 11))), some (.int (nI 0))]) (st' := [.int (nI 0)]) (I' := a.2) (J' := J) rfl ?_
              refine EV_if_eq (off := 47) (tgt := 162) C (by decide +kernel) (by decide) (fun h18 => ?_) (fun h18 => ?_)
              · skip
                refine EV_blk (own := 12) C rfl [(.iinc 5 1, 0, 0, 0, (nI 1)), (.goto (-132), 0, 0, 0, 0)] (pc' := 33) (by decide +kernel) (lv' := [some (.ref 117), some (.int (nI x)), some (.int (nI y)), some (.int t), some (.int a.1), some (.int ((nI i) + (nI 1))), some (.int (nI (i % 11))), some (.int (nI (i / 11))), some (.int (nI 0))]) (st' := []) (I' := a.2) (J' := J) rfl ?_
                refine EV_fg (lv' := [some (.ref 117), some (.int (nI x)), some (.int (nI y)), some (.int t), some (.int a.1), some (.int ((nI i) + (nI 1))), none, none, none]) ⟨rfl, rfl, rfl, rfl, rfl, rfl, trivial⟩ ?_
                rw [show ((nI i) + (nI 1)) = (nI (i + 1)) from by simp (disch := omega) only [nI_add, tq_mul] <;> exact congrArg nI (by omega)]
                rw [tq_its, show (f_rc1 x y t w h) i a = (a.1, a.2) from by simp only [f_rc1, if_neg h1, if_pos h2, if_pos h7, if_pos h12, if_pos h17, if_pos h18]] at kk
                have ihx := ih (i + 1) (a.1, a.2) (by omega)
                dsimp only at ihx
                exact ihx hI kk
              · skip
                exact absurd (by decide) h18
            · skip
              refine EV_blk (own := 12) C rfl [(.iconst 1, 0, 0, 0, (nI 1)), (.goto 4, 0, 0, 0, 0), (.istore 8, 0, 0, 0, 0), (.iload 8, 0, 0, 0, 0)] (pc' := 115) (by decide +kernel) (lv' := [some (.ref 117), some (.int (nI x)), some (.int (nI y)), some (.int t), some (.int a.1), some (.int (nI i)), some (.int (nI (i % 11))), some (.int (nI (i / 11))), some (.int (nI 1))]) (st' := [.int (nI 1)]) (I' := a.2) (J' := J) rfl ?_
              refine EV_if_eq (off := 47) (tgt := 162) C (by decide +kernel) (by decide) (fun h19 => ?_) (fun h19 => ?_)
              · skip
                exact absurd h19 (by decide)
              · skip
                refine EV_blk (own := 12) C rfl [(.aload_n 0, 0, 0, 0, 0), (.iload 6, 0, 0, 0, 0), (.iload 7, 0, 0, 0, 0)] (pc' := 123) (by decide +kernel) (lv' := [some (.ref 117), some (.int (nI x)), some (.int (nI y)), some (.int t), some (.int a.1), some (.int (nI i)), some (.int (nI (i % 11))), some (.int (nI (i / 11))), some (.int (nI 1))]) (st' := [.int (nI (i / 11)), .int (nI (i % 11)), .ref 117]) (I' := a.2) (J' := J) rfl ?_
                refine EV_cV (own := 12) (idx := 87) (μ' := mX12_isCorner) (b := 117) (cb := 12) (av := [.int (nI (i % 11)), .int (nI (i / 11))]) (rest := []) C hR rfl (Or.inl ⟨1002, by decide⟩) kX12_isCorner sX12_isCorner (c_X12_isCorner g a.2 J (nI (i % 11)) (nI (i / 11)) ) rfl rfl (by decide +kernel) rfl (by decide) (Nat.le_of_ble_eq_true rfl) rfl ⟨Nat.zero_le _, Nat.zero_le _⟩ ?_
                refine EV_if_eq (off := 36) (tgt := 162) C (by decide +kernel) (by decide) (fun h20 => ?_) (fun h20 => ?_)
                · skip
                  refine EV_blk (own := 12) C rfl [(.iinc 5 1, 0, 0, 0, (nI 1)), (.goto (-132), 0, 0, 0, 0)] (pc' := 33) (by decide +kernel) (lv' := [some (.ref 117), some (.int (nI x)), some (.int (nI y)), some (.int t), some (.int a.1), some (.int ((nI i) + (nI 1))), some (.int (nI (i % 11))), some (.int (nI (i / 11))), some (.int (nI 1))]) (st' := []) (I' := a.2) (J' := J) rfl ?_
                  refine EV_fg (lv' := [some (.ref 117), some (.int (nI x)), some (.int (nI y)), some (.int t), some (.int a.1), some (.int ((nI i) + (nI 1))), none, none, none]) ⟨rfl, rfl, rfl, rfl, rfl, rfl, trivial⟩ ?_
                  rw [show ((nI i) + (nI 1)) = (nI (i + 1)) from by simp (disch := omega) only [nI_add, tq_mul] <;> exact congrArg nI (by omega)]
                  rw [tq_its, show (f_rc1 x y t w h) i a = (a.1, a.2) from by simp only [f_rc1, if_neg h1, if_pos h2, if_pos h7, if_pos h12, if_neg h17, if_neg h19, if_pos h20]] at kk
                  have ihx := ih (i + 1) (a.1, a.2) (by omega)
                  dsimp only at ihx
                  exact ihx hI kk
                · skip
                  refine EV_blk (own := 12) C rfl [(.aload_n 0, 0, 0, 0, 0), (.getfield 19, 12, 6, 905, 0), (.iload 5, 0, 0, 0, 0)] (pc' := 135) (by decide +kernel) (lv' := [some (.ref 117), some (.int (nI x)), some (.int (nI y)), some (.int t), some (.int a.1), some (.int (nI i)), some (.int (nI (i % 11))), some (.int (nI (i / 11))), some (.int (nI 1))]) (st' := [.int (nI i), .ref 121]) (I' := a.2) (J' := J) rfl ?_
                  refine EV_zald (j := i) C (by decide +kernel) rfl (nI_toInt (by omega)) (by omega) ?_
                  refine EV_if_ne (off := 26) (tgt := 162) C (by decide +kernel) (by decide) (fun h21 => ?_) (fun h21 => ?_)
                  · skip
                    refine EV_blk (own := 12) C rfl [(.iinc 5 1, 0, 0, 0, (nI 1)), (.goto (-132), 0, 0, 0, 0)] (pc' := 33) (by decide +kernel) (lv' := [some (.ref 117), some (.int (nI x)), some (.int (nI y)), some (.int t), some (.int a.1), some (.int ((nI i) + (nI 1))), some (.int (nI (i % 11))), some (.int (nI (i / 11))), some (.int (nI 1))]) (st' := []) (I' := a.2) (J' := J) rfl ?_
                    refine EV_fg (lv' := [some (.ref 117), some (.int (nI x)), some (.int (nI y)), some (.int t), some (.int a.1), some (.int ((nI i) + (nI 1))), none, none, none]) ⟨rfl, rfl, rfl, rfl, rfl, rfl, trivial⟩ ?_
                    rw [show ((nI i) + (nI 1)) = (nI (i + 1)) from by simp (disch := omega) only [nI_add, tq_mul] <;> exact congrArg nI (by omega)]
                    rw [tq_its, show (f_rc1 x y t w h) i a = (a.1, a.2) from by simp only [f_rc1, if_neg h1, if_pos h2, if_pos h7, if_pos h12, if_neg h17, if_neg h19, if_neg h20, if_neg h21]] at kk
                    have ihx := ih (i + 1) (a.1, a.2) (by omega)
                    dsimp only at ihx
                    exact ihx hI kk
                  · skip
                    refine EV_blk (own := 12) C rfl [(.aload_n 0, 0, 0, 0, 0), (.iload 6, 0, 0, 0, 0), (.iload 7, 0, 0, 0, 0)] (pc' := 144) (by decide +kernel) (lv' := [some (.ref 117), some (.int (nI x)), some (.int (nI y)), some (.int t), some (.int a.1), some (.int (nI i)), some (.int (nI (i % 11))), some (.int (nI (i / 11))), some (.int (nI 1))]) (st' := [.int (nI (i / 11)), .int (nI (i % 11)), .ref 117]) (I' := a.2) (J' := J) rfl ?_
                    refine EV_cV (own := 12) (idx := 76) (μ' := mX12_cornerOf) (b := 117) (cb := 12) (av := [.int (nI (i % 11)), .int (nI (i / 11))]) (rest := []) C hR rfl (Or.inl ⟨1006, by decide⟩) kX12_cornerOf sX12_cornerOf (c_X12_cornerOf g a.2 J (i % 11) (i / 11) (by omega) (by omega)) rfl rfl (by decide +kernel) rfl (by decide) (Nat.le_of_ble_eq_true rfl) rfl ⟨Nat.zero_le _, Nat.zero_le _⟩ ?_
                    refine EV_blk (own := 12) C rfl [(.iload_n 3, 0, 0, 0, 0)] (pc' := 148) (by decide +kernel) (lv' := [some (.ref 117), some (.int (nI x)), some (.int (nI y)), some (.int t), some (.int a.1), some (.int (nI i)), some (.int (nI (i % 11))), some (.int (nI (i / 11))), some (.int (nI 1))]) (st' := [.int t, .int (a.2 118 (22 + 11 * (i / 11) + (i % 11)))]) (I' := a.2) (J' := J) rfl ?_
                    refine EV_icmp_ne (off := 14) (tgt := 162) C (by decide +kernel) (by decide) (fun h22 => ?_) (fun h22 => ?_)
                    · skip
                      refine EV_blk (own := 12) C rfl [(.iinc 5 1, 0, 0, 0, (nI 1)), (.goto (-132), 0, 0, 0, 0)] (pc' := 33) (by decide +kernel) (lv' := [some (.ref 117), some (.int (nI x)), some (.int (nI y)), some (.int t), some (.int a.1), some (.int ((nI i) + (nI 1))), some (.int (nI (i % 11))), some (.int (nI (i / 11))), some (.int (nI 1))]) (st' := []) (I' := a.2) (J' := J) rfl ?_
                      refine EV_fg (lv' := [some (.ref 117), some (.int (nI x)), some (.int (nI y)), some (.int t), some (.int a.1), some (.int ((nI i) + (nI 1))), none, none, none]) ⟨rfl, rfl, rfl, rfl, rfl, rfl, trivial⟩ ?_
                      rw [show ((nI i) + (nI 1)) = (nI (i + 1)) from by simp (disch := omega) only [nI_add, tq_mul] <;> exact congrArg nI (by omega)]
                      rw [tq_its, show (f_rc1 x y t w h) i a = (a.1, a.2) from by simp only [f_rc1, if_neg h1, if_pos h2, if_pos h7, if_pos h12, if_neg h17, if_neg h19, if_neg h20, if_pos h21, if_neg h22]] at kk
                      have ihx := ih (i + 1) (a.1, a.2) (by omega)
                      dsimp only at ihx
                      exact ihx hI kk
                    · skip
                      refine EV_blk (own := 12) C rfl [(.aload_n 0, 0, 0, 0, 0), (.getfield 19, 12, 6, 905, 0), (.iload 5, 0, 0, 0, 0), (.iconst 1, 0, 0, 0, (nI 1))] (pc' := 158) (by decide +kernel) (lv' := [some (.ref 117), some (.int (nI x)), some (.int (nI y)), some (.int t), some (.int a.1), some (.int (nI i)), some (.int (nI (i % 11))), some (.int (nI (i / 11))), some (.int (nI 1))]) (st' := [.int (nI 1), .int (nI i), .ref 121]) (I' := a.2) (J' := J) rfl ?_
                      refine EV_zast (j := i) C (by decide +kernel) rfl (nI_toInt (by omega)) (by omega) (by decide) ?_
                      refine EV_blk (own := 12) C rfl [(.iconst 1, 0, 0, 0, (nI 1)), (.istore 4, 0, 0, 0, 0), (.iinc 5 1, 0, 0, 0, (nI 1)), (.goto (-132), 0, 0, 0, 0)] (pc' := 33) (by decide +kernel) (lv' := [some (.ref 117), some (.int (nI x)), some (.int (nI y)), some (.int t), some (.int (nI 1)), some (.int ((nI i) + (nI 1))), some (.int (nI (i % 11))), some (.int (nI (i / 11))), some (.int (nI 1))]) (st' := []) (I' := (tq_u a.2 121 i (nI 1))) (J' := J) rfl ?_
                      refine EV_fg (lv' := [some (.ref 117), some (.int (nI x)), some (.int (nI y)), some (.int t), some (.int (nI 1)), some (.int ((nI i) + (nI 1))), none, none, none]) ⟨rfl, rfl, rfl, rfl, rfl, rfl, trivial⟩ ?_
                      rw [show ((nI i) + (nI 1)) = (nI (i + 1)) from by simp (disch := omega) only [nI_add, tq_mul] <;> exact congrArg nI (by omega)]
                      rw [tq_its, show (f_rc1 x y t w h) i a = ((nI 1), (tq_u a.2 121 i (nI 1))) from by simp only [f_rc1, if_neg h1, if_pos h2, if_pos h7, if_pos h12, if_neg h17, if_neg h19, if_neg h20, if_pos h21, if_pos h22]] at kk
                      have ihx := ih (i + 1) ((nI 1), (tq_u a.2 121 i (nI 1))) (by omega)
                      dsimp only at ihx
                      exact ihx (hI.cong (tq_u_cell (by decide)) (tq_u_cell (by decide))) kk
theorem fr_rc1 (x y : Nat) (t : Int32) (w h : Nat) {cz : Nat} (hc : cz ≠ 121) (n i : Nat) (a : Int32 × tq_I) (jz : Nat) : (tq_it (f_rc1 x y t w h) n i a).2 cz jz = a.2 cz jz := by
  have hc0 := hc
  refine tq_itF2 (fun i a j => ?_) n i a jz
  simp only [f_rc1]
  (repeat' split) <;> simp (disch := first | assumption | (simp only [ne_eq] at *; simp [*])) [tq_u, tq_cp, hc0, fr_X12_touches, fr_ta1, fr_X12_touchesAll, fr_cps1, fr_X12_copies, fr_sav, fr_bg1, fr_bg2, fr_X12_begins, fr_ly1, fr_X12_lays, fr_bgn1, fr_X12_begin, fr_X12_setCorner, fr_fi1, fr_X12_fill, fr_fg1, fr_X12_forgets]
theorem tr_wh.rc1 {x y w h : Nat} {t : Int32} (n i : Nat) (a : Int32 × tq_I) (k : tr_wh a.2 w h) : tr_wh (tq_it (f_rc1 x y t w h) n i a).2 w h := k.cong (fr_rc1 _ _ _ _ _ (by decide) n i a 0) (fr_rc1 _ _ _ _ _ (by decide) n i a 1)
theorem tr_rcq {x y w h : Nat} {t : Int32} {i : Nat} {b : Int32 × tq_I} : f_rc1 x y t w h i b = b ∨ (f_rc1 x y t w h i b = (nI 1, tq_u b.2 121 i (nI 1)) ∧ b.2 121 i = 0) := by
  unfold f_rc1
  (repeat' split) <;> first | exact Or.inl rfl | (right; exact ⟨rfl, by assumption⟩)
theorem tr_rcm {x y w h n : Nat} {t : Int32} {a : tq_I} (hi : 122 ≤ n + 1 + tr_cnt (a 121) 121) : (tq_it (f_rc1 x y t w h) 121 0 (nI 0, a)).1 = 0 ∨ 122 ≤ n + tr_cnt ((tq_it (f_rc1 x y t w h) 121 0 (nI 0, a)).2 121) 121 := by
  have fin := tq_itB (f := f_rc1 x y t w h) (fun b => (∀ k, ¬ a 121 k = 0 → ¬ b.2 121 k = 0) ∧ (b.1 = 0 ∨ ∃ k, k < 121 ∧ a 121 k = 0 ∧ ¬ b.2 121 k = 0)) 121 (fun i b hi hb => by
    rcases tr_rcq (x := x) (y := y) (w := w) (h := h) (t := t) (i := i) (b := b) with e | ⟨e, e0⟩
    · rw [e]; exact hb
    · rw [e]
      dsimp only
      have hm : ∀ k, ¬ a 121 k = 0 → ¬ tq_u b.2 121 i (nI 1) 121 k = 0 := fun k hk => by
        by_cases hki : k = i
        · rw [hki, tq_u_same]; decide
        · rw [tq_u_slot hki]; exact hb.1 k hk
      exact ⟨hm, Or.inr ⟨i, hi, Classical.byContradiction (fun q => hb.1 i q e0), by rw [tq_u_same]; decide⟩⟩) 121 0 (nI 0, a) (by decide) ⟨fun k hk => hk, Or.inl rfl⟩
  obtain ⟨hm, h0 | ⟨j, hj, ha, hb⟩⟩ := fin
  · exact Or.inl h0
  · right
    have := tr_cnt_lt hm ha hb 121 hj
    omega
def f_rc2 (x y : Nat) (t : Int32) (w h : Nat) (i : Nat) (a : Int32 × tq_I) : Option (Int32 × tq_I) := (if a.1 = 0 then none else (some ((tq_it (f_rc1 x y t w h) 121 0 ((nI 0), a.2)).1, (tq_it (f_rc1 x y t w h) 121 0 ((nI 0), a.2)).2)))
set_option maxRecDepth 20000 in
theorem lp_rc2 {g : tq_G} {x0 : tq_X} (C : tq_C g mX12_reaches x0) (hR : tq_ht x0 3 0 0) (J : Int64) (x y : Nat) (t : Int32) (w h : Nat)  : ∀ (n i : Nat) (a : Int32 × tq_I), (a.1 = 0 ∨ 122 ≤ n + tr_cnt (a.2 121) 121) → tr_wh a.2 w h → EV g mX12_reaches x0 0 0 171 [some (.ref 117), some (.int (nI x)), some (.int (nI y)), some (.int t), some (.int ((tq_wh (f_rc2 x y t w h) n i a).1)), none, none, none, none] [] (tq_SC ++ tq_SR) tq_RR ((tq_wh (f_rc2 x y t w h) n i a).2) J → EV g mX12_reaches x0 0 0 22 [some (.ref 117), some (.int (nI x)), some (.int (nI y)), some (.int t), some (.int a.1), none, none, none, none] [] (tq_SC ++ tq_SR) tq_RR a.2 J := by
  intro n
  induction n with
  | zero =>
    intro i a hi hI kk
    rw [show tq_wh _ 0 i a = a from rfl] at kk
    refine EV_blk (own := 12) C rfl [(.iload 4, 0, 0, 0, 0)] (pc' := 24) (by decide +kernel) (lv' := [some (.ref 117), some (.int (nI x)), some (.int (nI y)), some (.int t), some (.int a.1), none, none, none, none]) (st' := [.int a.1]) (I' := a.2) (J' := J) rfl ?_
    refine EV_if_eq (off := 147) (tgt := 171) C (by decide +kernel) (by decide) (fun hon => ?_) (fun hon => ?_)
    · skip
      exact kk
    · skip
      exact absurd (tr_cnt_le (a.2 121) 121) (by have := hi.resolve_left hon; omega)
  | succ n ih =>
    intro i a hi hI kk
    refine EV_blk (own := 12) C rfl [(.iload 4, 0, 0, 0, 0)] (pc' := 24) (by decide +kernel) (lv' := [some (.ref 117), some (.int (nI x)), some (.int (nI y)), some (.int t), some (.int a.1), none, none, none, none]) (st' := [.int a.1]) (I' := a.2) (J' := J) rfl ?_
    refine EV_if_eq (off := 147) (tgt := 171) C (by decide +kernel) (by decide) (fun hon => ?_) (fun hon => ?_)
    · skip
      rw [tq_wh_none (show (f_rc2 x y t w h) i a = none from by simp only [f_rc2, if_pos hon])] at kk
      exact kk
    · skip
      refine EV_blk (own := 12) C rfl [(.iconst 0, 0, 0, 0, (nI 0)), (.istore 4, 0, 0, 0, 0), (.iconst 0, 0, 0, 0, (nI 0)), (.istore 5, 0, 0, 0, 0)] (pc' := 33) (by decide +kernel) (lv' := [some (.ref 117), some (.int (nI x)), some (.int (nI y)), some (.int t), some (.int (nI 0)), some (.int (nI 0)), none, none, none]) (st' := []) (I' := a.2) (J' := J) rfl ?_
      have hlp := lp_rc1 (g := g) C hR J x y t w h  121 0 ((nI 0), a.2)
      dsimp only at hlp
      refine hlp (by omega) hI ?_
      clear hlp
      refine EV_blk (own := 12) C rfl [(.goto (-146), 0, 0, 0, 0)] (pc' := 22) (by decide +kernel) (lv' := [some (.ref 117), some (.int (nI x)), some (.int (nI y)), some (.int t), some (.int ((tq_it (f_rc1 x y t w h) 121 0 ((nI 0), a.2)).1)), some (.int (nI ((0 + 121)))), none, none, none]) (st' := []) (I' := (tq_it (f_rc1 x y t w h) 121 0 ((nI 0), a.2)).2) (J' := J) rfl ?_
      refine EV_fg (lv' := [some (.ref 117), some (.int (nI x)), some (.int (nI y)), some (.int t), some (.int ((tq_it (f_rc1 x y t w h) 121 0 ((nI 0), a.2)).1)), none, none, none, none]) ⟨rfl, rfl, rfl, rfl, rfl, trivial⟩ ?_
      rw [tq_wh_some (show (f_rc2 x y t w h) i a = some ((tq_it (f_rc1 x y t w h) 121 0 ((nI 0), a.2)).1, (tq_it (f_rc1 x y t w h) 121 0 ((nI 0), a.2)).2) from by simp only [f_rc2, if_neg hon])] at kk
      have ihx := ih (i + 1) ((tq_it (f_rc1 x y t w h) 121 0 ((nI 0), a.2)).1, (tq_it (f_rc1 x y t w h) 121 0 ((nI 0), a.2)).2)
      dsimp only at ihx
      exact ihx (tr_rcm (hi.resolve_left hon)) (tr_wh.rc1 _ _ (nI 0, a.2) hI) kk
theorem fr_rc2 (x y : Nat) (t : Int32) (w h : Nat) {cz : Nat} (hc : cz ≠ 121) (n i : Nat) (a : Int32 × tq_I) (jz : Nat) : (tq_wh (f_rc2 x y t w h) n i a).2 cz jz = a.2 cz jz := by
  refine tq_whF2 (fun i a b j h0 => ?_) n i a jz
  unfold f_rc2 at h0
  split at h0
  · cases h0
  · rw [← Option.some.inj h0]
    have e := fr_rc1 x y t w h hc 121 0 (nI 0, a.2) j
    dsimp only at e ⊢
    exact e
theorem tr_wh.rc2 {x y w h : Nat} {t : Int32} (n i : Nat) (a : Int32 × tq_I) (k : tr_wh a.2 w h) : tr_wh (tq_wh (f_rc2 x y t w h) n i a).2 w h := k.cong (fr_rc2 _ _ _ _ _ (by decide) n i a 0) (fr_rc2 _ _ _ _ _ (by decide) n i a 1)
def I_X12_reaches (I : tq_I) (x y : Nat) (w h : Nat) : tq_I := (tq_wh (f_rc2 x y (I 118 (22 + 11 * y + x)) w h) 122 0 ((nI 1), (tq_u I 121 ((11 * y) + x) (nI 1)))).2
set_option maxRecDepth 20000 in
theorem c_X12_reaches (g : tq_G) (I : tq_I) (J : Int64) (x y : Nat) (w h : Nat) (hx : x ≤ 10) (hy : y ≤ 10) (k : tr_wh I w h) : CT g mX12_reaches 3 0 0 [.ref 117, .int (nI x), .int (nI y)] (tq_SC ++ tq_SR) tq_RR I J (tq_ret (tq_SC ++ tq_SR) tq_RR none (I_X12_reaches I x y w h) J) := by
  refine CT.ret kX12_reaches (Nat.le_of_ble_eq_true rfl) (fun x0 C hR hZ => ?_)
  refine EV_en (lv' := [some (.ref 117), some (.int (nI x)), some (.int (nI y)), none, none, none, none, none, none]) 6 rfl ?_
  refine EV_blk (own := 12) C rfl [(.aload_n 0, 0, 0, 0, 0), (.iload_n 1, 0, 0, 0, 0), (.iload_n 2, 0, 0, 0, 0)] (pc' := 3) (by decide +kernel) (lv' := [some (.ref 117), some (.int (nI x)), some (.int (nI y)), none, none, none, none, none, none]) (st' := [.int (nI y), .int (nI x), .ref 117]) (I' := I) (J' := J) rfl ?_
  refine EV_cV (own := 12) (idx := 76) (μ' := mX12_cornerOf) (b := 117) (cb := 12) (av := [.int (nI x), .int (nI y)]) (rest := []) C hR rfl (Or.inl ⟨1006, by decide⟩) kX12_cornerOf sX12_cornerOf (c_X12_cornerOf g I J x y (by omega) (by omega)) rfl rfl (by decide +kernel) rfl (by decide) (Nat.le_of_ble_eq_true rfl) rfl ⟨Nat.zero_le _, Nat.zero_le _⟩ ?_
  refine EV_blk (own := 12) C rfl [(.istore_n 3, 0, 0, 0, 0), (.aload_n 0, 0, 0, 0, 0), (.getfield 19, 12, 6, 905, 0), (.bipush 11, 0, 0, 0, (nI 11)), (.iload_n 2, 0, 0, 0, 0), (.imul, 0, 0, 0, 0), (.iload_n 1, 0, 0, 0, 0), (.iadd, 0, 0, 0, 0), (.iconst 1, 0, 0, 0, (nI 1))] (pc' := 18) (by decide +kernel) (lv' := [some (.ref 117), some (.int (nI x)), some (.int (nI y)), some (.int (I 118 (22 + 11 * y + x))), none, none, none, none, none]) (st' := [.int (nI 1), .int (((nI 11) * (nI y)) + (nI x)), .ref 121]) (I' := I) (J' := J) rfl ?_
  refine EV_zast (j := ((11 * y) + x)) C (by decide +kernel) rfl (tq_toI ((11 * y) + x) (by simp (disch := omega) only [nI_add, tq_mul, tq_rem_nI, tq_div_nI, tq_sub_nI]) (by omega)) (by omega) (by decide) ?_
  refine EV_blk (own := 12) C rfl [(.iconst 1, 0, 0, 0, (nI 1)), (.istore 4, 0, 0, 0, 0)] (pc' := 22) (by decide +kernel) (lv' := [some (.ref 117), some (.int (nI x)), some (.int (nI y)), some (.int (I 118 (22 + 11 * y + x))), some (.int (nI 1)), none, none, none, none]) (st' := []) (I' := (tq_u I 121 ((11 * y) + x) (nI 1))) (J' := J) rfl ?_
  have hlp := lp_rc2 (g := g) C hR J x y (I 118 (22 + 11 * y + x)) w h  122 0 ((nI 1), (tq_u I 121 ((11 * y) + x) (nI 1)))
  dsimp only at hlp
  refine hlp (Or.inr (Nat.le_add_right _ _)) (k.cong (tq_u_cell (by decide)) (tq_u_cell (by decide))) ?_
  clear hlp
  exact EV_vret C hZ rfl (by decide +kernel) (Nat.le_refl _) (Nat.le_refl _) ⟨rfl, rfl, rfl, by simp only [I_X12_reaches], rfl⟩
theorem fr_X12_reaches (I : tq_I) (x y : Nat) (w h : Nat) {cz : Nat} (hc : cz ≠ 121) (jz : Nat) : I_X12_reaches I x y w h cz jz = I cz jz := by
  have hc0 := hc
  simp only [I_X12_reaches]
  (repeat' split) <;> simp (disch := first | assumption | (simp only [ne_eq] at *; simp [*])) [tq_u, tq_cp, hc0, fr_X12_touches, fr_ta1, fr_X12_touchesAll, fr_cps1, fr_X12_copies, fr_sav, fr_bg1, fr_bg2, fr_X12_begins, fr_ly1, fr_X12_lays, fr_bgn1, fr_X12_begin, fr_X12_setCorner, fr_fi1, fr_X12_fill, fr_fg1, fr_X12_forgets, fr_rc1, fr_rc2]
theorem tr_wh.fr {I K : tq_I} {w h : Nat} (k : tr_wh I w h) (e : ∀ j, K 118 j = I 118 j) : tr_wh K w h := k.cong (e 0) (e 1)
theorem tr_wh.reaches {I : tq_I} {x y w h : Nat} (k : tr_wh I w h) : tr_wh (I_X12_reaches I x y w h) w h := k.fr (fr_X12_reaches _ _ _ _ _ (by decide))
theorem tr_wh.forgets {I : tq_I} {w h : Nat} (k : tr_wh I w h) : tr_wh (I_X12_forgets I) w h := k.fr (fr_X12_forgets _ (by decide))
def f_mfl1 (x y : Nat) (t : Int32) (w h : Nat) (i : Nat) (a : Int32 × tq_I) : Int32 × tq_I := (if (a.2 121 i) = 0 then ((a.1 + (nI 0)), a.2) else ((a.1 + (r_X12_lays a.2 (i % 11) (i / 11) t w h)), (I_X12_lays a.2 (i % 11) (i / 11) t w h)))
set_option maxRecDepth 20000 in
theorem lp_mfl1 {g : tq_G} {x0 : tq_X} (C : tq_C g mX12_flood x0) (hR : tq_ht x0 4 0 0) (J : Int64) (x y : Nat) (t : Int32) (w h : Nat)  : ∀ (n i : Nat) (a : Int32 × tq_I), i + n = 121 → tr_wh a.2 w h → EV g mX12_flood x0 0 0 86 [some (.ref 117), some (.int (nI x)), some (.int (nI y)), some (.int t), some (.int ((tq_it (f_mfl1 x y t w h) n i a).1)), some (.int (nI (i + n)))] [] (tq_SC ++ tq_SR) tq_RR ((tq_it (f_mfl1 x y t w h) n i a).2) J → EV g mX12_flood x0 0 0 39 [some (.ref 117), some (.int (nI x)), some (.int (nI y)), some (.int t), some (.int a.1), some (.int (nI i))] [] (tq_SC ++ tq_SR) tq_RR a.2 J := by
  intro n
  induction n with
  | zero =>
    intro i a hi hI kk
    rw [Nat.add_zero] at kk
    refine EV_blk (own := 12) C rfl [(.iload 5, 0, 0, 0, 0), (.bipush 121, 0, 0, 0, (nI 121))] (pc' := 43) (by decide +kernel) (lv' := [some (.ref 117), some (.int (nI x)), some (.int (nI y)), some (.int t), some (.int a.1), some (.int (nI i))]) (st' := [.int (nI 121), .int (nI i)]) (I' := a.2) (J' := J) rfl ?_
    refine EV_icmp_ge (off := 43) (tgt := 86) C (by decide +kernel) (by decide) (fun h1 => ?_) (fun h1 => ?_)
    · skip
      exact kk
    · skip
      exact absurd h1 (by simp (disch := omega) only [Int32.lt_iff_toInt_lt, Int32.le_iff_toInt_le, Int32.toInt_zero, nI_toInt, tq_m1]; omega)
  | succ n ih =>
    intro i a hi hI kk
    rw [show i + (n + 1) = (i + 1) + n by omega] at kk
    refine EV_blk (own := 12) C rfl [(.iload 5, 0, 0, 0, 0), (.bipush 121, 0, 0, 0, (nI 121))] (pc' := 43) (by decide +kernel) (lv' := [some (.ref 117), some (.int (nI x)), some (.int (nI y)), some (.int t), some (.int a.1), some (.int (nI i))]) (st' := [.int (nI 121), .int (nI i)]) (I' := a.2) (J' := J) rfl ?_
    refine EV_icmp_ge (off := 43) (tgt := 86) C (by decide +kernel) (by decide) (fun h1 => ?_) (fun h1 => ?_)
    · skip
      exact absurd h1 (by simp (disch := omega) only [Int32.lt_iff_toInt_lt, Int32.le_iff_toInt_le, Int32.toInt_zero, nI_toInt, tq_m1]; omega)
    · skip
      refine EV_blk (own := 12) C rfl [(.iload 4, 0, 0, 0, 0), (.aload_n 0, 0, 0, 0, 0), (.getfield 19, 12, 6, 905, 0), (.iload 5, 0, 0, 0, 0)] (pc' := 54) (by decide +kernel) (lv' := [some (.ref 117), some (.int (nI x)), some (.int (nI y)), some (.int t), some (.int a.1), some (.int (nI i))]) (st' := [.int (nI i), .ref 121, .int a.1]) (I' := a.2) (J' := J) rfl ?_
      refine EV_zald (j := i) C (by decide +kernel) rfl (nI_toInt (by omega)) (by omega) ?_
      refine EV_if_eq (off := 21) (tgt := 76) C (by decide +kernel) (by decide) (fun h2 => ?_) (fun h2 => ?_)
      · skip
        refine EV_blk (own := 12) C rfl [(.iconst 0, 0, 0, 0, (nI 0)), (.iadd, 0, 0, 0, 0), (.istore 4, 0, 0, 0, 0), (.iinc 5 1, 0, 0, 0, (nI 1)), (.goto (-44), 0, 0, 0, 0)] (pc' := 39) (by decide +kernel) (lv' := [some (.ref 117), some (.int (nI x)), some (.int (nI y)), some (.int t), some (.int (a.1 + (nI 0))), some (.int ((nI i) + (nI 1)))]) (st' := []) (I' := a.2) (J' := J) rfl ?_
        rw [show ((nI i) + (nI 1)) = (nI (i + 1)) from by simp (disch := omega) only [nI_add, tq_mul] <;> exact congrArg nI (by omega)]
        rw [tq_its, show (f_mfl1 x y t w h) i a = ((a.1 + (nI 0)), a.2) from by simp only [f_mfl1, if_neg h1, if_pos h2]] at kk
        have ihx := ih (i + 1) ((a.1 + (nI 0)), a.2) (by omega)
        dsimp only at ihx
        exact ihx hI kk
      · skip
        refine EV_blk (own := 12) C rfl [(.aload_n 0, 0, 0, 0, 0), (.iload 5, 0, 0, 0, 0), (.bipush 11, 0, 0, 0, (nI 11))] (pc' := 63) (by decide +kernel) (lv' := [some (.ref 117), some (.int (nI x)), some (.int (nI y)), some (.int t), some (.int a.1), some (.int (nI i))]) (st' := [.int (nI 11), .int (nI i), .ref 117, .int a.1]) (I' := a.2) (J' := J) rfl ?_
        refine EV_irem C (by decide +kernel) (by decide) ?_
        refine EV_blk (own := 12) C rfl [(.iload 5, 0, 0, 0, 0), (.bipush 11, 0, 0, 0, (nI 11))] (pc' := 68) (by decide +kernel) (lv' := [some (.ref 117), some (.int (nI x)), some (.int (nI y)), some (.int t), some (.int a.1), some (.int (nI i))]) (st' := [.int (nI 11), .int (nI i), .int (tq_rem (nI i) (nI 11)), .ref 117, .int a.1]) (I' := a.2) (J' := J) rfl ?_
        refine EV_idiv C (by decide +kernel) (by decide) ?_
        refine EV_blk (own := 12) C rfl [(.iload_n 3, 0, 0, 0, 0)] (pc' := 70) (by decide +kernel) (lv' := [some (.ref 117), some (.int (nI x)), some (.int (nI y)), some (.int t), some (.int a.1), some (.int (nI i))]) (st' := [.int t, .int ((nI i) / (nI 11)), .int (tq_rem (nI i) (nI 11)), .ref 117, .int a.1]) (I' := a.2) (J' := J) rfl ?_
        rw [show ((nI i) / (nI 11)) = (nI (i / 11)) from by simp (disch := omega) only [nI_add, tq_mul, tq_rem_nI, tq_div_nI, tq_sub_nI]]
        rw [show (tq_rem (nI i) (nI 11)) = (nI (i % 11)) from by simp (disch := omega) only [nI_add, tq_mul, tq_rem_nI, tq_div_nI, tq_sub_nI]]
        refine EV_cV (own := 12) (idx := 90) (μ' := mX12_lays) (b := 117) (cb := 12) (av := [.int (nI (i % 11)), .int (nI (i / 11)), .int t]) (rest := [.int a.1]) C hR rfl (Or.inl ⟨1010, by decide⟩) kX12_lays sX12_lays (c_X12_lays g a.2 J (i % 11) (i / 11) t w h (by omega) (by omega) hI) rfl rfl (by decide +kernel) rfl (by decide) (Nat.le_of_ble_eq_true rfl) rfl ⟨Nat.zero_le _, Nat.zero_le _⟩ ?_
        refine EV_blk (own := 12) C rfl [(.goto 4, 0, 0, 0, 0), (.iadd, 0, 0, 0, 0), (.istore 4, 0, 0, 0, 0), (.iinc 5 1, 0, 0, 0, (nI 1)), (.goto (-44), 0, 0, 0, 0)] (pc' := 39) (by decide +kernel) (lv' := [some (.ref 117), some (.int (nI x)), some (.int (nI y)), some (.int t), some (.int (a.1 + (r_X12_lays a.2 (i % 11) (i / 11) t w h))), some (.int ((nI i) + (nI 1)))]) (st' := []) (I' := (I_X12_lays a.2 (i % 11) (i / 11) t w h)) (J' := J) rfl ?_
        rw [show ((nI i) + (nI 1)) = (nI (i + 1)) from by simp (disch := omega) only [nI_add, tq_mul] <;> exact congrArg nI (by omega)]
        rw [tq_its, show (f_mfl1 x y t w h) i a = ((a.1 + (r_X12_lays a.2 (i % 11) (i / 11) t w h)), (I_X12_lays a.2 (i % 11) (i / 11) t w h)) from by simp only [f_mfl1, if_neg h1, if_neg h2]] at kk
        have ihx := ih (i + 1) ((a.1 + (r_X12_lays a.2 (i % 11) (i / 11) t w h)), (I_X12_lays a.2 (i % 11) (i / 11) t w h)) (by omega)
        dsimp only at ihx
        exact ihx hI.lays kk
theorem fr_mfl1 (x y : Nat) (t : Int32) (w h : Nat) {cz : Nat} (hc : cz ≠ 118) (n i : Nat) (a : Int32 × tq_I) (jz : Nat) : (tq_it (f_mfl1 x y t w h) n i a).2 cz jz = a.2 cz jz := by
  have hc0 := hc
  refine tq_itF2 (fun i a j => ?_) n i a jz
  simp only [f_mfl1]
  (repeat' split) <;> simp (disch := first | assumption | (simp only [ne_eq] at *; simp [*])) [tq_u, tq_cp, hc0, fr_X12_touches, fr_ta1, fr_X12_touchesAll, fr_cps1, fr_X12_copies, fr_sav, fr_bg1, fr_bg2, fr_X12_begins, fr_ly1, fr_X12_lays, fr_bgn1, fr_X12_begin, fr_X12_setCorner, fr_fi1, fr_X12_fill, fr_fg1, fr_X12_forgets, fr_rc1, fr_rc2, fr_X12_reaches]
def r_X12_flood (I : tq_I) (x y t : Int32) (w h s : Nat) : Int32 := (if (tq_b (tr_corner I x y)) = 0 then (-2) else (if (tq_b ((nI 0).toInt ≤ t.toInt ∧ t.toInt ≤ (nI 5).toInt)) = 0 then (-2) else (tq_it (f_mfl1 (tq_N x) (tq_N y) t w h) 121 0 ((nI 0), (I_X12_reaches (I_X12_forgets (tr_sav I s)) (tq_N x) (tq_N y) w h))).1))
def I_X12_flood (I : tq_I) (x y t : Int32) (w h s : Nat) : tq_I := (if (tq_b (tr_corner I x y)) = 0 then I else (if (tq_b ((nI 0).toInt ≤ t.toInt ∧ t.toInt ≤ (nI 5).toInt)) = 0 then I else (tq_it (f_mfl1 (tq_N x) (tq_N y) t w h) 121 0 ((nI 0), (I_X12_reaches (I_X12_forgets (tr_sav I s)) (tq_N x) (tq_N y) w h))).2))
set_option maxRecDepth 20000 in
theorem c_X12_flood (g : tq_G) (I : tq_I) (J : Int64) (x y t : Int32) (w h s : Nat) (k : tr_wh I w h) (hs : I 117 1 = nI s) (hs5 : s ≤ 5)  : CT g mX12_flood 4 0 0 [.ref 117, .int x, .int y, .int t] (tq_SC ++ tq_SR) tq_RR I J (tq_ret (tq_SC ++ tq_SR) tq_RR (some (.int (r_X12_flood I x y t w h s))) (I_X12_flood I x y t w h s) J) := by
  refine CT.ret kX12_flood (Nat.le_of_ble_eq_true rfl) (fun x0 C hR hZ => ?_)
  refine EV_en (lv' := [some (.ref 117), some (.int x), some (.int y), some (.int t), none, none]) 2 rfl ?_
  refine EV_blk (own := 12) C rfl [(.aload_n 0, 0, 0, 0, 0), (.iload_n 1, 0, 0, 0, 0), (.iload_n 2, 0, 0, 0, 0)] (pc' := 3) (by decide +kernel) (lv' := [some (.ref 117), some (.int x), some (.int y), some (.int t), none, none]) (st' := [.int y, .int x, .ref 117]) (I' := I) (J' := J) rfl ?_
  refine EV_cV (own := 12) (idx := 87) (μ' := mX12_isCorner) (b := 117) (cb := 12) (av := [.int x, .int y]) (rest := []) C hR rfl (Or.inl ⟨1002, by decide⟩) kX12_isCorner sX12_isCorner (c_X12_isCorner g I J x y ) rfl rfl (by decide +kernel) rfl (by decide) (Nat.le_of_ble_eq_true rfl) rfl ⟨Nat.zero_le _, Nat.zero_le _⟩ ?_
  refine EV_if_eq (off := 10) (tgt := 16) C (by decide +kernel) (by decide) (fun h1 => ?_) (fun h1 => ?_)
  · skip
    refine EV_blk (own := 12) C rfl [(.bipush (-2), 0, 0, 0, (-2))] (pc' := 18) (by decide +kernel) (lv' := [some (.ref 117), some (.int x), some (.int y), some (.int t), none, none]) (st' := [.int (-2)]) (I' := I) (J' := J) rfl ?_
    exact EV_iret C hZ rfl (by decide +kernel) (Nat.le_refl _) (Nat.le_refl _) ⟨tq_some (by simp only [r_X12_flood, if_pos h1]), rfl, rfl, by simp only [I_X12_flood, if_pos h1], rfl⟩
  · skip
    have hc := tq_b10 h1
    have hxy := tr_corner.ix k hc
    have hw10 := k.2.2.2.1
    have hh10 := k.2.2.2.2.2
    refine EV_blk (own := 12) C rfl [(.iload_n 3, 0, 0, 0, 0)] (pc' := 10) (by decide +kernel) (lv' := [some (.ref 117), some (.int x), some (.int y), some (.int t), none, none]) (st' := [.int t]) (I' := I) (J' := J) rfl ?_
    refine EV_cS (own := 12) (idx := 80) (μ' := mX12_isTerrain) (av := [.int t]) (rest := []) C hR rfl (Or.inl ⟨983, by decide⟩) kX12_isTerrain sX12_isTerrain (c_X12_isTerrain g I J t ) (by decide +kernel) rfl (by decide) (Nat.le_of_ble_eq_true rfl) rfl ⟨Nat.zero_le _, Nat.zero_le _⟩ ?_
    refine EV_if_ne (off := 6) (tgt := 19) C (by decide +kernel) (by decide) (fun h2 => ?_) (fun h2 => ?_)
    · skip
      have ht := tq_t05 (tq_b10 h2)
      refine EV_lve (lv' := [some (.ref 117), some (.int (nI (tq_N x))), some (.int (nI (tq_N y))), some (.int t), none, none]) (by rw [← tq_nIN hxy.1, ← tq_nIN hxy.2.1]) ?_
      refine EV_blk (own := 12) C rfl [(.aload_n 0, 0, 0, 0, 0)] (pc' := 20) (by decide +kernel) (lv' := [some (.ref 117), some (.int (nI (tq_N x))), some (.int (nI (tq_N y))), some (.int t), none, none]) (st' := [.ref 117]) (I' := I) (J' := J) rfl ?_
      refine EV_cV (own := 12) (idx := 84) (μ' := mX12_saves) (b := 117) (cb := 12) (av := []) (rest := []) C hR rfl (Or.inl ⟨986, by decide⟩) kX12_saves sX12_saves (c_saves g I J s hs hs5) rfl rfl (by decide +kernel) rfl (by decide) (Nat.le_of_ble_eq_true rfl) rfl ⟨Nat.zero_le _, Nat.zero_le _⟩ ?_
      refine EV_blk (own := 12) C rfl [(.aload_n 0, 0, 0, 0, 0)] (pc' := 24) (by decide +kernel) (lv' := [some (.ref 117), some (.int (nI (tq_N x))), some (.int (nI (tq_N y))), some (.int t), none, none]) (st' := [.ref 117]) (I' := (tr_sav I s)) (J' := J) rfl ?_
      refine EV_cV (own := 12) (idx := 97) (μ' := mX12_forgets) (b := 117) (cb := 12) (av := []) (rest := []) C hR rfl (Or.inl ⟨1026, by decide⟩) kX12_forgets sX12_forgets (c_X12_forgets g (tr_sav I s) J  ) rfl rfl (by decide +kernel) rfl (by decide) (Nat.le_of_ble_eq_true rfl) rfl ⟨Nat.zero_le _, Nat.zero_le _⟩ ?_
      refine EV_blk (own := 12) C rfl [(.aload_n 0, 0, 0, 0, 0), (.iload_n 1, 0, 0, 0, 0), (.iload_n 2, 0, 0, 0, 0)] (pc' := 30) (by decide +kernel) (lv' := [some (.ref 117), some (.int (nI (tq_N x))), some (.int (nI (tq_N y))), some (.int t), none, none]) (st' := [.int (nI (tq_N y)), .int (nI (tq_N x)), .ref 117]) (I' := (I_X12_forgets (tr_sav I s))) (J' := J) rfl ?_
      refine EV_cV (own := 12) (idx := 100) (μ' := mX12_reaches) (b := 117) (cb := 12) (av := [.int (nI (tq_N x)), .int (nI (tq_N y))]) (rest := []) C hR rfl (Or.inl ⟨1030, by decide⟩) kX12_reaches sX12_reaches (c_X12_reaches g (I_X12_forgets (tr_sav I s)) J (tq_N x) (tq_N y) w h (by omega) (by omega) k.sav.forgets) rfl rfl (by decide +kernel) rfl (by decide) (Nat.le_of_ble_eq_true rfl) rfl ⟨Nat.zero_le _, Nat.zero_le _⟩ ?_
      refine EV_blk (own := 12) C rfl [(.iconst 0, 0, 0, 0, (nI 0)), (.istore 4, 0, 0, 0, 0), (.iconst 0, 0, 0, 0, (nI 0)), (.istore 5, 0, 0, 0, 0)] (pc' := 39) (by decide +kernel) (lv' := [some (.ref 117), some (.int (nI (tq_N x))), some (.int (nI (tq_N y))), some (.int t), some (.int (nI 0)), some (.int (nI 0))]) (st' := []) (I' := (I_X12_reaches (I_X12_forgets (tr_sav I s)) (tq_N x) (tq_N y) w h)) (J' := J) rfl ?_
      have hlp := lp_mfl1 (g := g) C hR J (tq_N x) (tq_N y) t w h  121 0 ((nI 0), (I_X12_reaches (I_X12_forgets (tr_sav I s)) (tq_N x) (tq_N y) w h))
      dsimp only at hlp
      refine hlp (by omega) k.sav.forgets.reaches ?_
      clear hlp
      refine EV_blk (own := 12) C rfl [(.iload 4, 0, 0, 0, 0)] (pc' := 88) (by decide +kernel) (lv' := [some (.ref 117), some (.int (nI (tq_N x))), some (.int (nI (tq_N y))), some (.int t), some (.int ((tq_it (f_mfl1 (tq_N x) (tq_N y) t w h) 121 0 ((nI 0), (I_X12_reaches (I_X12_forgets (tr_sav I s)) (tq_N x) (tq_N y) w h))).1)), some (.int (nI ((0 + 121))))]) (st' := [.int ((tq_it (f_mfl1 (tq_N x) (tq_N y) t w h) 121 0 ((nI 0), (I_X12_reaches (I_X12_forgets (tr_sav I s)) (tq_N x) (tq_N y) w h))).1)]) (I' := (tq_it (f_mfl1 (tq_N x) (tq_N y) t w h) 121 0 ((nI 0), (I_X12_reaches (I_X12_forgets (tr_sav I s)) (tq_N x) (tq_N y) w h))).2) (J' := J) rfl ?_
      exact EV_iret C hZ rfl (by decide +kernel) (Nat.le_refl _) (Nat.le_refl _) ⟨tq_some (by simp only [r_X12_flood, if_neg h1, if_neg h2]), rfl, rfl, by simp only [I_X12_flood, if_neg h1, if_neg h2], rfl⟩
    · skip
      refine EV_blk (own := 12) C rfl [(.bipush (-2), 0, 0, 0, (-2))] (pc' := 18) (by decide +kernel) (lv' := [some (.ref 117), some (.int x), some (.int y), some (.int t), none, none]) (st' := [.int (-2)]) (I' := I) (J' := J) rfl ?_
      exact EV_iret C hZ rfl (by decide +kernel) (Nat.le_refl _) (Nat.le_refl _) ⟨tq_some (by simp only [r_X12_flood, if_neg h1, if_pos h2]), rfl, rfl, by simp only [I_X12_flood, if_neg h1, if_pos h2], rfl⟩
theorem fr_X12_flood (I : tq_I) (x y t : Int32) (w h s : Nat) {cz : Nat} (hc : cz ≠ 117 ∧ cz ≠ 118 ∧ cz ≠ 121) (jz : Nat) : I_X12_flood I x y t w h s cz jz = I cz jz := by
  obtain ⟨hc0, hc1, hc2⟩ := hc
  simp only [I_X12_flood]
  (repeat' split) <;> simp (disch := first | assumption | (simp only [ne_eq] at *; simp [*])) [tq_u, tq_cp, hc0, hc1, hc2, fr_X12_touches, fr_ta1, fr_X12_touchesAll, fr_cps1, fr_X12_copies, fr_sav, fr_bg1, fr_bg2, fr_X12_begins, fr_ly1, fr_X12_lays, fr_bgn1, fr_X12_begin, fr_X12_setCorner, fr_fi1, fr_X12_fill, fr_fg1, fr_X12_forgets, fr_rc1, fr_rc2, fr_X12_reaches, fr_mfl1]
def f_mrg1 (t : Int32) (w h : Nat) (i : Nat) (a : Int32 × tq_I) : Int32 × tq_I := (if (tq_b (tr_corner a.2 (nI (i % 11)) (nI (i / 11)))) = 0 then (a.1, a.2) else (if (a.2 121 i) = 0 then (if (a.2 118 (22 + 11 * (i / 11) + (i % 11))) = t then ((a.1 + (nI 1)), (I_X12_reaches a.2 (i % 11) (i / 11) w h)) else (a.1, a.2)) else (a.1, a.2)))
set_option maxRecDepth 20000 in
theorem lp_mrg1 {g : tq_G} {x0 : tq_X} (C : tq_C g mX12_regions x0) (hR : tq_ht x0 4 0 0) (J : Int64) (t : Int32) (w h : Nat)  : ∀ (n i : Nat) (a : Int32 × tq_I), i + n = 121 → tr_wh a.2 w h → EV g mX12_regions x0 0 0 85 [some (.ref 117), some (.int t), some (.int ((tq_it (f_mrg1 t w h) n i a).1)), some (.int (nI (i + n)))] [] (tq_SC ++ tq_SR) tq_RR ((tq_it (f_mrg1 t w h) n i a).2) J → EV g mX12_regions x0 0 0 18 [some (.ref 117), some (.int t), some (.int a.1), some (.int (nI i))] [] (tq_SC ++ tq_SR) tq_RR a.2 J := by
  intro n
  induction n with
  | zero =>
    intro i a hi hI kk
    rw [Nat.add_zero] at kk
    refine EV_blk (own := 12) C rfl [(.iload_n 3, 0, 0, 0, 0), (.bipush 121, 0, 0, 0, (nI 121))] (pc' := 21) (by decide +kernel) (lv' := [some (.ref 117), some (.int t), some (.int a.1), some (.int (nI i))]) (st' := [.int (nI 121), .int (nI i)]) (I' := a.2) (J' := J) rfl ?_
    refine EV_icmp_ge (off := 64) (tgt := 85) C (by decide +kernel) (by decide) (fun h1 => ?_) (fun h1 => ?_)
    · skip
      exact kk
    · skip
      exact absurd h1 (by simp (disch := omega) only [Int32.lt_iff_toInt_lt, Int32.le_iff_toInt_le, Int32.toInt_zero, nI_toInt, tq_m1]; omega)
  | succ n ih =>
    intro i a hi hI kk
    rw [show i + (n + 1) = (i + 1) + n by omega] at kk
    refine EV_blk (own := 12) C rfl [(.iload_n 3, 0, 0, 0, 0), (.bipush 121, 0, 0, 0, (nI 121))] (pc' := 21) (by decide +kernel) (lv' := [some (.ref 117), some (.int t), some (.int a.1), some (.int (nI i))]) (st' := [.int (nI 121), .int (nI i)]) (I' := a.2) (J' := J) rfl ?_
    refine EV_icmp_ge (off := 64) (tgt := 85) C (by decide +kernel) (by decide) (fun h1 => ?_) (fun h1 => ?_)
    · skip
      exact absurd h1 (by simp (disch := omega) only [Int32.lt_iff_toInt_lt, Int32.le_iff_toInt_le, Int32.toInt_zero, nI_toInt, tq_m1]; omega)
    · skip
      refine EV_blk (own := 12) C rfl [(.aload_n 0, 0, 0, 0, 0), (.iload_n 3, 0, 0, 0, 0), (.bipush 11, 0, 0, 0, (nI 11))] (pc' := 28) (by decide +kernel) (lv' := [some (.ref 117), some (.int t), some (.int a.1), some (.int (nI i))]) (st' := [.int (nI 11), .int (nI i), .ref 117]) (I' := a.2) (J' := J) rfl ?_
      refine EV_irem C (by decide +kernel) (by decide) ?_
      refine EV_blk (own := 12) C rfl [(.iload_n 3, 0, 0, 0, 0), (.bipush 11, 0, 0, 0, (nI 11))] (pc' := 32) (by decide +kernel) (lv' := [some (.ref 117), some (.int t), some (.int a.1), some (.int (nI i))]) (st' := [.int (nI 11), .int (nI i), .int (tq_rem (nI i) (nI 11)), .ref 117]) (I' := a.2) (J' := J) rfl ?_
      refine EV_idiv C (by decide +kernel) (by decide) ?_
      rw [show ((nI i) / (nI 11)) = (nI (i / 11)) from by simp (disch := omega) only [nI_add, tq_mul, tq_rem_nI, tq_div_nI, tq_sub_nI]]
      rw [show (tq_rem (nI i) (nI 11)) = (nI (i % 11)) from by simp (disch := omega) only [nI_add, tq_mul, tq_rem_nI, tq_div_nI, tq_sub_nI]]
      refine EV_cV (own := 12) (idx := 87) (μ' := mX12_isCorner) (b := 117) (cb := 12) (av := [.int (nI (i % 11)), .int (nI (i / 11))]) (rest := []) C hR rfl (Or.inl ⟨1002, by decide⟩) kX12_isCorner sX12_isCorner (c_X12_isCorner g a.2 J (nI (i % 11)) (nI (i / 11)) ) rfl rfl (by decide +kernel) rfl (by decide) (Nat.le_of_ble_eq_true rfl) rfl ⟨Nat.zero_le _, Nat.zero_le _⟩ ?_
      refine EV_if_eq (off := 43) (tgt := 79) C (by decide +kernel) (by decide) (fun h2 => ?_) (fun h2 => ?_)
      · skip
        refine EV_blk (own := 12) C rfl [(.iinc 3 1, 0, 0, 0, (nI 1)), (.goto (-64), 0, 0, 0, 0)] (pc' := 18) (by decide +kernel) (lv' := [some (.ref 117), some (.int t), some (.int a.1), some (.int ((nI i) + (nI 1)))]) (st' := []) (I' := a.2) (J' := J) rfl ?_
        rw [show ((nI i) + (nI 1)) = (nI (i + 1)) from by simp (disch := omega) only [nI_add, tq_mul] <;> exact congrArg nI (by omega)]
        rw [tq_its, show (f_mrg1 t w h) i a = (a.1, a.2) from by simp only [f_mrg1, if_neg h1, if_pos h2]] at kk
        have ihx := ih (i + 1) (a.1, a.2) (by omega)
        dsimp only at ihx
        exact ihx hI kk
      · skip
        refine EV_blk (own := 12) C rfl [(.aload_n 0, 0, 0, 0, 0), (.getfield 19, 12, 6, 905, 0), (.iload_n 3, 0, 0, 0, 0)] (pc' := 44) (by decide +kernel) (lv' := [some (.ref 117), some (.int t), some (.int a.1), some (.int (nI i))]) (st' := [.int (nI i), .ref 121]) (I' := a.2) (J' := J) rfl ?_
        refine EV_zald (j := i) C (by decide +kernel) rfl (nI_toInt (by omega)) (by omega) ?_
        refine EV_if_ne (off := 34) (tgt := 79) C (by decide +kernel) (by decide) (fun h3 => ?_) (fun h3 => ?_)
        · skip
          refine EV_blk (own := 12) C rfl [(.iinc 3 1, 0, 0, 0, (nI 1)), (.goto (-64), 0, 0, 0, 0)] (pc' := 18) (by decide +kernel) (lv' := [some (.ref 117), some (.int t), some (.int a.1), some (.int ((nI i) + (nI 1)))]) (st' := []) (I' := a.2) (J' := J) rfl ?_
          rw [show ((nI i) + (nI 1)) = (nI (i + 1)) from by simp (disch := omega) only [nI_add, tq_mul] <;> exact congrArg nI (by omega)]
          rw [tq_its, show (f_mrg1 t w h) i a = (a.1, a.2) from by simp only [f_mrg1, if_neg h1, if_neg h2, if_neg h3]] at kk
          have ihx := ih (i + 1) (a.1, a.2) (by omega)
          dsimp only at ihx
          exact ihx hI kk
        · skip
          refine EV_blk (own := 12) C rfl [(.aload_n 0, 0, 0, 0, 0), (.iload_n 3, 0, 0, 0, 0), (.bipush 11, 0, 0, 0, (nI 11))] (pc' := 52) (by decide +kernel) (lv' := [some (.ref 117), some (.int t), some (.int a.1), some (.int (nI i))]) (st' := [.int (nI 11), .int (nI i), .ref 117]) (I' := a.2) (J' := J) rfl ?_
          refine EV_irem C (by decide +kernel) (by decide) ?_
          refine EV_blk (own := 12) C rfl [(.iload_n 3, 0, 0, 0, 0), (.bipush 11, 0, 0, 0, (nI 11))] (pc' := 56) (by decide +kernel) (lv' := [some (.ref 117), some (.int t), some (.int a.1), some (.int (nI i))]) (st' := [.int (nI 11), .int (nI i), .int (tq_rem (nI i) (nI 11)), .ref 117]) (I' := a.2) (J' := J) rfl ?_
          refine EV_idiv C (by decide +kernel) (by decide) ?_
          rw [show ((nI i) / (nI 11)) = (nI (i / 11)) from by simp (disch := omega) only [nI_add, tq_mul, tq_rem_nI, tq_div_nI, tq_sub_nI]]
          rw [show (tq_rem (nI i) (nI 11)) = (nI (i % 11)) from by simp (disch := omega) only [nI_add, tq_mul, tq_rem_nI, tq_div_nI, tq_sub_nI]]
          refine EV_cV (own := 12) (idx := 76) (μ' := mX12_cornerOf) (b := 117) (cb := 12) (av := [.int (nI (i % 11)), .int (nI (i / 11))]) (rest := []) C hR rfl (Or.inl ⟨1006, by decide⟩) kX12_cornerOf sX12_cornerOf (c_X12_cornerOf g a.2 J (i % 11) (i / 11) (by omega) (by omega)) rfl rfl (by decide +kernel) rfl (by decide) (Nat.le_of_ble_eq_true rfl) rfl ⟨Nat.zero_le _, Nat.zero_le _⟩ ?_
          refine EV_blk (own := 12) C rfl [(.iload_n 1, 0, 0, 0, 0)] (pc' := 61) (by decide +kernel) (lv' := [some (.ref 117), some (.int t), some (.int a.1), some (.int (nI i))]) (st' := [.int t, .int (a.2 118 (22 + 11 * (i / 11) + (i % 11)))]) (I' := a.2) (J' := J) rfl ?_
          refine EV_icmp_ne (off := 18) (tgt := 79) C (by decide +kernel) (by decide) (fun h4 => ?_) (fun h4 => ?_)
          · skip
            refine EV_blk (own := 12) C rfl [(.iinc 3 1, 0, 0, 0, (nI 1)), (.goto (-64), 0, 0, 0, 0)] (pc' := 18) (by decide +kernel) (lv' := [some (.ref 117), some (.int t), some (.int a.1), some (.int ((nI i) + (nI 1)))]) (st' := []) (I' := a.2) (J' := J) rfl ?_
            rw [show ((nI i) + (nI 1)) = (nI (i + 1)) from by simp (disch := omega) only [nI_add, tq_mul] <;> exact congrArg nI (by omega)]
            rw [tq_its, show (f_mrg1 t w h) i a = (a.1, a.2) from by simp only [f_mrg1, if_neg h1, if_neg h2, if_pos h3, if_neg h4]] at kk
            have ihx := ih (i + 1) (a.1, a.2) (by omega)
            dsimp only at ihx
            exact ihx hI kk
          · skip
            refine EV_blk (own := 12) C rfl [(.aload_n 0, 0, 0, 0, 0), (.iload_n 3, 0, 0, 0, 0), (.bipush 11, 0, 0, 0, (nI 11))] (pc' := 68) (by decide +kernel) (lv' := [some (.ref 117), some (.int t), some (.int a.1), some (.int (nI i))]) (st' := [.int (nI 11), .int (nI i), .ref 117]) (I' := a.2) (J' := J) rfl ?_
            refine EV_irem C (by decide +kernel) (by decide) ?_
            refine EV_blk (own := 12) C rfl [(.iload_n 3, 0, 0, 0, 0), (.bipush 11, 0, 0, 0, (nI 11))] (pc' := 72) (by decide +kernel) (lv' := [some (.ref 117), some (.int t), some (.int a.1), some (.int (nI i))]) (st' := [.int (nI 11), .int (nI i), .int (tq_rem (nI i) (nI 11)), .ref 117]) (I' := a.2) (J' := J) rfl ?_
            refine EV_idiv C (by decide +kernel) (by decide) ?_
            rw [show ((nI i) / (nI 11)) = (nI (i / 11)) from by simp (disch := omega) only [nI_add, tq_mul, tq_rem_nI, tq_div_nI, tq_sub_nI]]
            rw [show (tq_rem (nI i) (nI 11)) = (nI (i % 11)) from by simp (disch := omega) only [nI_add, tq_mul, tq_rem_nI, tq_div_nI, tq_sub_nI]]
            refine EV_cV (own := 12) (idx := 100) (μ' := mX12_reaches) (b := 117) (cb := 12) (av := [.int (nI (i % 11)), .int (nI (i / 11))]) (rest := []) C hR rfl (Or.inl ⟨1030, by decide⟩) kX12_reaches sX12_reaches (c_X12_reaches g a.2 J (i % 11) (i / 11) w h (by omega) (by omega) hI) rfl rfl (by decide +kernel) rfl (by decide) (Nat.le_of_ble_eq_true rfl) rfl ⟨Nat.zero_le _, Nat.zero_le _⟩ ?_
            refine EV_blk (own := 12) C rfl [(.iinc 2 1, 0, 0, 0, (nI 1)), (.iinc 3 1, 0, 0, 0, (nI 1)), (.goto (-64), 0, 0, 0, 0)] (pc' := 18) (by decide +kernel) (lv' := [some (.ref 117), some (.int t), some (.int (a.1 + (nI 1))), some (.int ((nI i) + (nI 1)))]) (st' := []) (I' := (I_X12_reaches a.2 (i % 11) (i / 11) w h)) (J' := J) rfl ?_
            rw [show ((nI i) + (nI 1)) = (nI (i + 1)) from by simp (disch := omega) only [nI_add, tq_mul] <;> exact congrArg nI (by omega)]
            rw [tq_its, show (f_mrg1 t w h) i a = ((a.1 + (nI 1)), (I_X12_reaches a.2 (i % 11) (i / 11) w h)) from by simp only [f_mrg1, if_neg h1, if_neg h2, if_pos h3, if_pos h4]] at kk
            have ihx := ih (i + 1) ((a.1 + (nI 1)), (I_X12_reaches a.2 (i % 11) (i / 11) w h)) (by omega)
            dsimp only at ihx
            exact ihx hI.reaches kk
theorem fr_mrg1 (t : Int32) (w h : Nat) {cz : Nat} (hc : cz ≠ 121) (n i : Nat) (a : Int32 × tq_I) (jz : Nat) : (tq_it (f_mrg1 t w h) n i a).2 cz jz = a.2 cz jz := by
  have hc0 := hc
  refine tq_itF2 (fun i a j => ?_) n i a jz
  simp only [f_mrg1]
  (repeat' split) <;> simp (disch := first | assumption | (simp only [ne_eq] at *; simp [*])) [tq_u, tq_cp, hc0, fr_X12_touches, fr_ta1, fr_X12_touchesAll, fr_cps1, fr_X12_copies, fr_sav, fr_bg1, fr_bg2, fr_X12_begins, fr_ly1, fr_X12_lays, fr_bgn1, fr_X12_begin, fr_X12_setCorner, fr_fi1, fr_X12_fill, fr_fg1, fr_X12_forgets, fr_rc1, fr_rc2, fr_X12_reaches, fr_mfl1, fr_X12_flood]
def r_X12_regions (I : tq_I) (t : Int32) (w h s : Nat) : Int32 := (if (tq_b ((nI 0).toInt ≤ t.toInt ∧ t.toInt ≤ (nI 5).toInt)) = 0 then (-2) else (tq_it (f_mrg1 t w h) 121 0 ((nI 0), (I_X12_forgets I))).1)
def I_X12_regions (I : tq_I) (t : Int32) (w h s : Nat) : tq_I := (if (tq_b ((nI 0).toInt ≤ t.toInt ∧ t.toInt ≤ (nI 5).toInt)) = 0 then I else (tq_it (f_mrg1 t w h) 121 0 ((nI 0), (I_X12_forgets I))).2)
set_option maxRecDepth 20000 in
theorem c_X12_regions (g : tq_G) (I : tq_I) (J : Int64) (t : Int32) (w h s : Nat) (k : tr_wh I w h) (hs : I 117 1 = nI s) (hs5 : s ≤ 5)  : CT g mX12_regions 4 0 0 [.ref 117, .int t] (tq_SC ++ tq_SR) tq_RR I J (tq_ret (tq_SC ++ tq_SR) tq_RR (some (.int (r_X12_regions I t w h s))) (I_X12_regions I t w h s) J) := by
  refine CT.ret kX12_regions (Nat.le_of_ble_eq_true rfl) (fun x0 C hR hZ => ?_)
  refine EV_en (lv' := [some (.ref 117), some (.int t), none, none]) 2 rfl ?_
  refine EV_blk (own := 12) C rfl [(.iload_n 1, 0, 0, 0, 0)] (pc' := 1) (by decide +kernel) (lv' := [some (.ref 117), some (.int t), none, none]) (st' := [.int t]) (I' := I) (J' := J) rfl ?_
  refine EV_cS (own := 12) (idx := 80) (μ' := mX12_isTerrain) (av := [.int t]) (rest := []) C hR rfl (Or.inl ⟨983, by decide⟩) kX12_isTerrain sX12_isTerrain (c_X12_isTerrain g I J t ) (by decide +kernel) rfl (by decide) (Nat.le_of_ble_eq_true rfl) rfl ⟨Nat.zero_le _, Nat.zero_le _⟩ ?_
  refine EV_if_ne (off := 6) (tgt := 10) C (by decide +kernel) (by decide) (fun h1 => ?_) (fun h1 => ?_)
  · skip
    have ht := tq_t05 (tq_b10 h1)
    refine EV_blk (own := 12) C rfl [(.aload_n 0, 0, 0, 0, 0)] (pc' := 11) (by decide +kernel) (lv' := [some (.ref 117), some (.int t), none, none]) (st' := [.ref 117]) (I' := I) (J' := J) rfl ?_
    refine EV_cV (own := 12) (idx := 97) (μ' := mX12_forgets) (b := 117) (cb := 12) (av := []) (rest := []) C hR rfl (Or.inl ⟨1026, by decide⟩) kX12_forgets sX12_forgets (c_X12_forgets g I J  ) rfl rfl (by decide +kernel) rfl (by decide) (Nat.le_of_ble_eq_true rfl) rfl ⟨Nat.zero_le _, Nat.zero_le _⟩ ?_
    refine EV_blk (own := 12) C rfl [(.iconst 0, 0, 0, 0, (nI 0)), (.istore_n 2, 0, 0, 0, 0), (.iconst 0, 0, 0, 0, (nI 0)), (.istore_n 3, 0, 0, 0, 0)] (pc' := 18) (by decide +kernel) (lv' := [some (.ref 117), some (.int t), some (.int (nI 0)), some (.int (nI 0))]) (st' := []) (I' := (I_X12_forgets I)) (J' := J) rfl ?_
    have hlp := lp_mrg1 (g := g) C hR J t w h  121 0 ((nI 0), (I_X12_forgets I))
    dsimp only at hlp
    refine hlp (by omega) k.forgets ?_
    clear hlp
    refine EV_blk (own := 12) C rfl [(.iload_n 2, 0, 0, 0, 0)] (pc' := 86) (by decide +kernel) (lv' := [some (.ref 117), some (.int t), some (.int ((tq_it (f_mrg1 t w h) 121 0 ((nI 0), (I_X12_forgets I))).1)), some (.int (nI ((0 + 121))))]) (st' := [.int ((tq_it (f_mrg1 t w h) 121 0 ((nI 0), (I_X12_forgets I))).1)]) (I' := (tq_it (f_mrg1 t w h) 121 0 ((nI 0), (I_X12_forgets I))).2) (J' := J) rfl ?_
    exact EV_iret C hZ rfl (by decide +kernel) (Nat.le_refl _) (Nat.le_refl _) ⟨tq_some (by simp only [r_X12_regions, if_neg h1]), rfl, rfl, by simp only [I_X12_regions, if_neg h1], rfl⟩
  · skip
    refine EV_blk (own := 12) C rfl [(.bipush (-2), 0, 0, 0, (-2))] (pc' := 9) (by decide +kernel) (lv' := [some (.ref 117), some (.int t), none, none]) (st' := [.int (-2)]) (I' := I) (J' := J) rfl ?_
    exact EV_iret C hZ rfl (by decide +kernel) (Nat.le_refl _) (Nat.le_refl _) ⟨tq_some (by simp only [r_X12_regions, if_pos h1]), rfl, rfl, by simp only [I_X12_regions, if_pos h1], rfl⟩
theorem fr_X12_regions (I : tq_I) (t : Int32) (w h s : Nat) {cz : Nat} (hc : cz ≠ 121) (jz : Nat) : I_X12_regions I t w h s cz jz = I cz jz := by
  have hc0 := hc
  simp only [I_X12_regions]
  (repeat' split) <;> simp (disch := first | assumption | (simp only [ne_eq] at *; simp [*])) [tq_u, tq_cp, hc0, fr_X12_touches, fr_ta1, fr_X12_touchesAll, fr_cps1, fr_X12_copies, fr_sav, fr_bg1, fr_bg2, fr_X12_begins, fr_ly1, fr_X12_lays, fr_bgn1, fr_X12_begin, fr_X12_setCorner, fr_fi1, fr_X12_fill, fr_fg1, fr_X12_forgets, fr_rc1, fr_rc2, fr_X12_reaches, fr_mfl1, fr_X12_flood, fr_mrg1]
def r_X12_size_ (a b : Int32) : Int32 := (if a ≤ b then (b - a) else (a - b))
set_option maxRecDepth 20000 in
theorem c_X12_size_ (g : tq_G) (I : tq_I) (J : Int64) (a b : Int32)  : CT g mX12_size_ 0 0 0 [.int a, .int b] (tq_SC ++ tq_SR) tq_RR I J (tq_ret (tq_SC ++ tq_SR) tq_RR (some (.int (r_X12_size_ a b))) I J) := by
  refine CT.ret kX12_size_ (Nat.le_of_ble_eq_true rfl) (fun x0 C hR hZ => ?_)
  refine EV_en (lv' := [some (.int a), some (.int b)]) 0 rfl ?_
  refine EV_blk (own := 12) C rfl [(.iload_n 0, 0, 0, 0, 0), (.iload_n 1, 0, 0, 0, 0)] (pc' := 2) (by decide +kernel) (lv' := [some (.int a), some (.int b)]) (st' := [.int b, .int a]) (I' := I) (J' := J) rfl ?_
  refine EV_icmp_le (off := 9) (tgt := 11) C (by decide +kernel) (by decide) (fun h1 => ?_) (fun h1 => ?_)
  · skip
    refine EV_blk (own := 12) C rfl [(.iload_n 1, 0, 0, 0, 0), (.iload_n 0, 0, 0, 0, 0), (.isub, 0, 0, 0, 0)] (pc' := 14) (by decide +kernel) (lv' := [some (.int a), some (.int b)]) (st' := [.int (b - a)]) (I' := I) (J' := J) rfl ?_
    exact EV_iret C hZ rfl (by decide +kernel) (Nat.le_refl _) (Nat.le_refl _) ⟨tq_some (by simp only [r_X12_size_, if_pos h1]), rfl, rfl, rfl, rfl⟩
  · skip
    refine EV_blk (own := 12) C rfl [(.iload_n 0, 0, 0, 0, 0), (.iload_n 1, 0, 0, 0, 0), (.isub, 0, 0, 0, 0), (.goto 6, 0, 0, 0, 0)] (pc' := 14) (by decide +kernel) (lv' := [some (.int a), some (.int b)]) (st' := [.int (a - b)]) (I' := I) (J' := J) rfl ?_
    exact EV_iret C hZ rfl (by decide +kernel) (Nat.le_refl _) (Nat.le_refl _) ⟨tq_some (by simp only [r_X12_size_, if_neg h1]), rfl, rfl, rfl, rfl⟩
theorem tr_sz {a b : Nat} (ha : a < 2 ^ 31) (hb : b < 2 ^ 31) : r_X12_size_ (nI a) (nI b) = nI ((a - b) + (b - a)) := by
  unfold r_X12_size_
  by_cases h : a ≤ b
  · rw [if_pos (nI_leI ha hb |>.mpr h), tq_sub_nI h]
    exact congrArg nI (by omega)
  · rw [if_neg (fun q => h ((nI_leI ha hb).mp q)), tq_sub_nI (by omega)]
    exact congrArg nI (by omega)
theorem c_size_ (g : tq_G) (I : tq_I) (J : Int64) (a b : Nat) (ha : a < 2 ^ 31) (hb : b < 2 ^ 31) : CT g mX12_size_ 0 0 0 [.int (nI a), .int (nI b)] (tq_SC ++ tq_SR) tq_RR I J (tq_ret (tq_SC ++ tq_SR) tq_RR (some (.int (nI ((a - b) + (b - a))))) I J) := by
  rw [← tr_sz ha hb]
  exact c_X12_size_ g I J (nI a) (nI b)
def tr_ord (I : tq_I) : Prop := (∀ t, t ≤ 5 → ∃ k, k ≤ 5 ∧ I 118 (4 + k) = nI t) ∧ ∀ k, k ≤ 5 → 0 ≤ (I 118 (4 + k)).toInt ∧ (I 118 (4 + k)).toInt ≤ 5
def tr_ter (I : tq_I) : Prop := ∀ j, j < 121 → 0 ≤ (I 118 (22 + j)).toInt ∧ (I 118 (22 + j)).toInt ≤ 5
theorem tr_ord.has {I : tq_I} (h : tr_ord I) {t : Int32} (ht : 0 ≤ t.toInt ∧ t.toInt ≤ 5) : ∃ k, k ≤ 5 ∧ I 118 (4 + k) = t := by
  obtain ⟨k, hk, e⟩ := h.1 (tq_N t) (by unfold tq_N; omega)
  exact ⟨k, hk, by rw [e, ← tq_nIN ht.1]⟩
theorem tr_ord.cong {I K : tq_I} (h : tr_ord I) (e : ∀ j, 4 ≤ j → j < 10 → K 118 j = I 118 j) : tr_ord K := by
  refine ⟨fun t ht => ?_, fun k hk => ?_⟩
  · obtain ⟨k, hk, e2⟩ := h.1 t ht
    exact ⟨k, hk, by rw [e _ (by omega) (by omega)]; exact e2⟩
  · rw [e _ (by omega) (by omega)]; exact h.2 k hk
theorem tr_ter.cong {I K : tq_I} (h : tr_ter I) (e : ∀ j, 22 ≤ j → j < 143 → K 118 j = I 118 j) : tr_ter K := by
  intro j hj
  rw [e _ (by omega) (by omega)]
  exact h j hj
theorem tr_ter.at {I : tq_I} (h : tr_ter I) {x y : Nat} (hx : x ≤ 10) (hy : y ≤ 10) : 0 ≤ (I 118 (22 + 11 * y + x)).toInt ∧ (I 118 (22 + 11 * y + x)).toInt ≤ 5 := by
  have := h (11 * y + x) (by omega)
  rwa [show 22 + (11 * y + x) = 22 + 11 * y + x by omega] at this
theorem tr_ord.lays {I : tq_I} {x y w h : Nat} {t : Int32} (q : tr_ord I) (k : tr_wh I w h) : tr_ord (I_X12_lays I x y t w h) := q.cong (fun j h1 h2 => by rw [fs_lays k (by omega), if_neg (by omega)])
theorem tr_ter.lays {I : tq_I} {x y w h : Nat} {t : Int32} (q : tr_ter I) (k : tr_wh I w h) (ht : 0 ≤ t.toInt ∧ t.toInt ≤ 5) : tr_ter (I_X12_lays I x y t w h) := by
  intro j hj
  rw [fs_lays k (by omega)]
  split
  · exact ht
  · exact q j hj
theorem tr_rs1 : ∀ a, a < 6 → ∀ b, b < 6 → ∀ c, c < 11 → ¬ nI b - nI c ≤ nI a → a + c < b := by decide +kernel
theorem tr_rs2 {a b c : Nat} (ha : a < 6) (hb : b < 6) (hc : c < 11) (h : ¬ nI a ≤ nI b + nI c) : b + c < a := by
  rw [nI_add, nI_leI (by omega) (by omega)] at h
  omega
def f_mra1 (x y t r : Nat) (w h : Nat) (i : Nat) (a : Int32 × tq_I) : Int32 × tq_I := (if (nI (((i % 11) - x) + (x - (i % 11)))) ≤ (nI (((i / 11) - y) + (y - (i / 11)))) then (if (tq_b (tr_corner a.2 (nI (i % 11)) (nI (i / 11)))) = 0 then (a.1, a.2) else (if ((nI r) - (nI (((i / 11) - y) + (y - (i / 11))))) ≤ (nI (tr_rk a.2 (a.2 118 (22 + 11 * (i / 11) + (i % 11))))) then (if (nI (tr_rk a.2 (a.2 118 (22 + 11 * (i / 11) + (i % 11))))) ≤ ((nI r) + (nI (((i / 11) - y) + (y - (i / 11))))) then ((a.1 + (r_X12_lays a.2 (i % 11) (i / 11) (a.2 118 (4 + (tr_rk a.2 (a.2 118 (22 + 11 * (i / 11) + i % 11))))) w h)), (I_X12_lays a.2 (i % 11) (i / 11) (a.2 118 (4 + (tr_rk a.2 (a.2 118 (22 + 11 * (i / 11) + i % 11))))) w h)) else ((a.1 + (r_X12_lays a.2 (i % 11) (i / 11) (a.2 118 (4 + (r + (((i / 11) - y) + (y - (i / 11)))))) w h)), (I_X12_lays a.2 (i % 11) (i / 11) (a.2 118 (4 + (r + (((i / 11) - y) + (y - (i / 11)))))) w h))) else ((a.1 + (r_X12_lays a.2 (i % 11) (i / 11) (a.2 118 (4 + (r - (((i / 11) - y) + (y - (i / 11)))))) w h)), (I_X12_lays a.2 (i % 11) (i / 11) (a.2 118 (4 + (r - (((i / 11) - y) + (y - (i / 11)))))) w h)))) else (if (tq_b (tr_corner a.2 (nI (i % 11)) (nI (i / 11)))) = 0 then (a.1, a.2) else (if ((nI r) - (nI (((i % 11) - x) + (x - (i % 11))))) ≤ (nI (tr_rk a.2 (a.2 118 (22 + 11 * (i / 11) + (i % 11))))) then (if (nI (tr_rk a.2 (a.2 118 (22 + 11 * (i / 11) + (i % 11))))) ≤ ((nI r) + (nI (((i % 11) - x) + (x - (i % 11))))) then ((a.1 + (r_X12_lays a.2 (i % 11) (i / 11) (a.2 118 (4 + (tr_rk a.2 (a.2 118 (22 + 11 * (i / 11) + i % 11))))) w h)), (I_X12_lays a.2 (i % 11) (i / 11) (a.2 118 (4 + (tr_rk a.2 (a.2 118 (22 + 11 * (i / 11) + i % 11))))) w h)) else ((a.1 + (r_X12_lays a.2 (i % 11) (i / 11) (a.2 118 (4 + (r + (((i % 11) - x) + (x - (i % 11)))))) w h)), (I_X12_lays a.2 (i % 11) (i / 11) (a.2 118 (4 + (r + (((i % 11) - x) + (x - (i % 11)))))) w h))) else ((a.1 + (r_X12_lays a.2 (i % 11) (i / 11) (a.2 118 (4 + (r - (((i % 11) - x) + (x - (i % 11)))))) w h)), (I_X12_lays a.2 (i % 11) (i / 11) (a.2 118 (4 + (r - (((i % 11) - x) + (x - (i % 11)))))) w h)))))
set_option maxRecDepth 20000 in
theorem lp_mra1 {g : tq_G} {x0 : tq_X} (C : tq_C g mX12_raise x0) (hR : tq_ht x0 4 0 0) (J : Int64) (x y t r : Nat) (w h : Nat) (hx : x ≤ 10) (hy : y ≤ 10) (hr : r ≤ 5) : ∀ (n i : Nat) (a : Int32 × tq_I), i + n = 121 → (tr_wh a.2 w h ∧ tr_ord a.2 ∧ tr_ter a.2) → EV g mX12_raise x0 0 0 182 [some (.ref 117), some (.int (nI x)), some (.int (nI y)), some (.int (nI t)), some (.int (nI r)), some (.int ((tq_it (f_mra1 x y t r w h) n i a).1)), some (.int (nI (i + n))), none, none, none, none, none] [] (tq_SC ++ tq_SR) tq_RR ((tq_it (f_mra1 x y t r w h) n i a).2) J → EV g mX12_raise x0 0 0 36 [some (.ref 117), some (.int (nI x)), some (.int (nI y)), some (.int (nI t)), some (.int (nI r)), some (.int a.1), some (.int (nI i)), none, none, none, none, none] [] (tq_SC ++ tq_SR) tq_RR a.2 J := by
  intro n
  induction n with
  | zero =>
    intro i a hi hI kk
    rw [Nat.add_zero] at kk
    refine EV_blk (own := 12) C rfl [(.iload 6, 0, 0, 0, 0), (.bipush 121, 0, 0, 0, (nI 121))] (pc' := 40) (by decide +kernel) (lv' := [some (.ref 117), some (.int (nI x)), some (.int (nI y)), some (.int (nI t)), some (.int (nI r)), some (.int a.1), some (.int (nI i)), none, none, none, none, none]) (st' := [.int (nI 121), .int (nI i)]) (I' := a.2) (J' := J) rfl ?_
    refine EV_icmp_ge (off := 142) (tgt := 182) C (by decide +kernel) (by decide) (fun h1 => ?_) (fun h1 => ?_)
    · skip
      exact kk
    · skip
      exact absurd h1 (by simp (disch := omega) only [Int32.lt_iff_toInt_lt, Int32.le_iff_toInt_le, Int32.toInt_zero, nI_toInt, tq_m1]; omega)
  | succ n ih =>
    intro i a hi hI kk
    rw [show i + (n + 1) = (i + 1) + n by omega] at kk
    refine EV_blk (own := 12) C rfl [(.iload 6, 0, 0, 0, 0), (.bipush 121, 0, 0, 0, (nI 121))] (pc' := 40) (by decide +kernel) (lv' := [some (.ref 117), some (.int (nI x)), some (.int (nI y)), some (.int (nI t)), some (.int (nI r)), some (.int a.1), some (.int (nI i)), none, none, none, none, none]) (st' := [.int (nI 121), .int (nI i)]) (I' := a.2) (J' := J) rfl ?_
    refine EV_icmp_ge (off := 142) (tgt := 182) C (by decide +kernel) (by decide) (fun h1 => ?_) (fun h1 => ?_)
    · skip
      exact absurd h1 (by simp (disch := omega) only [Int32.lt_iff_toInt_lt, Int32.le_iff_toInt_le, Int32.toInt_zero, nI_toInt, tq_m1]; omega)
    · skip
      refine EV_blk (own := 12) C rfl [(.iload 6, 0, 0, 0, 0), (.bipush 11, 0, 0, 0, (nI 11))] (pc' := 47) (by decide +kernel) (lv' := [some (.ref 117), some (.int (nI x)), some (.int (nI y)), some (.int (nI t)), some (.int (nI r)), some (.int a.1), some (.int (nI i)), none, none, none, none, none]) (st' := [.int (nI 11), .int (nI i)]) (I' := a.2) (J' := J) rfl ?_
      refine EV_irem C (by decide +kernel) (by decide) ?_
      refine EV_blk (own := 12) C rfl [(.istore 7, 0, 0, 0, 0), (.iload 6, 0, 0, 0, 0), (.bipush 11, 0, 0, 0, (nI 11))] (pc' := 54) (by decide +kernel) (lv' := [some (.ref 117), some (.int (nI x)), some (.int (nI y)), some (.int (nI t)), some (.int (nI r)), some (.int a.1), some (.int (nI i)), some (.int (tq_rem (nI i) (nI 11))), none, none, none, none]) (st' := [.int (nI 11), .int (nI i)]) (I' := a.2) (J' := J) rfl ?_
      refine EV_idiv C (by decide +kernel) (by decide) ?_
      refine EV_blk (own := 12) C rfl [(.istore 8, 0, 0, 0, 0)] (pc' := 57) (by decide +kernel) (lv' := [some (.ref 117), some (.int (nI x)), some (.int (nI y)), some (.int (nI t)), some (.int (nI r)), some (.int a.1), some (.int (nI i)), some (.int (tq_rem (nI i) (nI 11))), some (.int ((nI i) / (nI 11))), none, none, none]) (st' := []) (I' := a.2) (J' := J) rfl ?_
      refine EV_lve (lv' := [some (.ref 117), some (.int (nI x)), some (.int (nI y)), some (.int (nI t)), some (.int (nI r)), some (.int a.1), some (.int (nI i)), some (.int (nI (i % 11))), some (.int (nI (i / 11))), none, none, none]) (by simp (disch := omega) only [tq_rem_nI, tq_div_nI]) ?_
      refine EV_blk (own := 12) C rfl [(.iload 7, 0, 0, 0, 0), (.iload_n 1, 0, 0, 0, 0)] (pc' := 60) (by decide +kernel) (lv' := [some (.ref 117), some (.int (nI x)), some (.int (nI y)), some (.int (nI t)), some (.int (nI r)), some (.int a.1), some (.int (nI i)), some (.int (nI (i % 11))), some (.int (nI (i / 11))), none, none, none]) (st' := [.int (nI x), .int (nI (i % 11))]) (I' := a.2) (J' := J) rfl ?_
      refine EV_cS (own := 12) (idx := 107) (μ' := mX12_size_) (av := [.int (nI (i % 11)), .int (nI x)]) (rest := []) C hR rfl (Or.inl ⟨1046, by decide⟩) kX12_size_ sX12_size_ (c_size_ g a.2 J (i % 11) x (by omega) (by omega)) (by decide +kernel) rfl (by decide) (Nat.le_of_ble_eq_true rfl) rfl ⟨Nat.zero_le _, Nat.zero_le _⟩ ?_
      refine EV_blk (own := 12) C rfl [(.iload 8, 0, 0, 0, 0), (.iload_n 2, 0, 0, 0, 0)] (pc' := 66) (by decide +kernel) (lv' := [some (.ref 117), some (.int (nI x)), some (.int (nI y)), some (.int (nI t)), some (.int (nI r)), some (.int a.1), some (.int (nI i)), some (.int (nI (i % 11))), some (.int (nI (i / 11))), none, none, none]) (st' := [.int (nI y), .int (nI (i / 11)), .int (nI (((i % 11) - x) + (x - (i % 11))))]) (I' := a.2) (J' := J) rfl ?_
      refine EV_cS (own := 12) (idx := 107) (μ' := mX12_size_) (av := [.int (nI (i / 11)), .int (nI y)]) (rest := [.int (nI (((i % 11) - x) + (x - (i % 11))))]) C hR rfl (Or.inl ⟨1046, by decide⟩) kX12_size_ sX12_size_ (c_size_ g a.2 J (i / 11) y (by omega) (by omega)) (by decide +kernel) rfl (by decide) (Nat.le_of_ble_eq_true rfl) rfl ⟨Nat.zero_le _, Nat.zero_le _⟩ ?_
      refine EV_icmp_le (off := 12) (tgt := 81) C (by decide +kernel) (by decide) (fun h2 => ?_) (fun h2 => ?_)
      · skip
        refine EV_blk (own := 12) C rfl [(.iload 8, 0, 0, 0, 0), (.iload_n 2, 0, 0, 0, 0)] (pc' := 84) (by decide +kernel) (lv' := [some (.ref 117), some (.int (nI x)), some (.int (nI y)), some (.int (nI t)), some (.int (nI r)), some (.int a.1), some (.int (nI i)), some (.int (nI (i % 11))), some (.int (nI (i / 11))), none, none, none]) (st' := [.int (nI y), .int (nI (i / 11))]) (I' := a.2) (J' := J) rfl ?_
        refine EV_cS (own := 12) (idx := 107) (μ' := mX12_size_) (av := [.int (nI (i / 11)), .int (nI y)]) (rest := []) C hR rfl (Or.inl ⟨1046, by decide⟩) kX12_size_ sX12_size_ (c_size_ g a.2 J (i / 11) y (by omega) (by omega)) (by decide +kernel) rfl (by decide) (Nat.le_of_ble_eq_true rfl) rfl ⟨Nat.zero_le _, Nat.zero_le _⟩ ?_
        refine EV_blk (own := 12) C rfl [(.istore 9, 0, 0, 0, 0), (.aload_n 0, 0, 0, 0, 0), (.iload 7, 0, 0, 0, 0), (.iload 8, 0, 0, 0, 0)] (pc' := 94) (by decide +kernel) (lv' := [some (.ref 117), some (.int (nI x)), some (.int (nI y)), some (.int (nI t)), some (.int (nI r)), some (.int a.1), some (.int (nI i)), some (.int (nI (i % 11))), some (.int (nI (i / 11))), some (.int (nI (((i / 11) - y) + (y - (i / 11))))), none, none]) (st' := [.int (nI (i / 11)), .int (nI (i % 11)), .ref 117]) (I' := a.2) (J' := J) rfl ?_
        refine EV_cV (own := 12) (idx := 87) (μ' := mX12_isCorner) (b := 117) (cb := 12) (av := [.int (nI (i % 11)), .int (nI (i / 11))]) (rest := []) C hR rfl (Or.inl ⟨1002, by decide⟩) kX12_isCorner sX12_isCorner (c_X12_isCorner g a.2 J (nI (i % 11)) (nI (i / 11)) ) rfl rfl (by decide +kernel) rfl (by decide) (Nat.le_of_ble_eq_true rfl) rfl ⟨Nat.zero_le _, Nat.zero_le _⟩ ?_
        refine EV_if_eq (off := 79) (tgt := 176) C (by decide +kernel) (by decide) (fun h3 => ?_) (fun h3 => ?_)
        · skip
          refine EV_blk (own := 12) C rfl [(.iinc 6 1, 0, 0, 0, (nI 1)), (.goto (-143), 0, 0, 0, 0)] (pc' := 36) (by decide +kernel) (lv' := [some (.ref 117), some (.int (nI x)), some (.int (nI y)), some (.int (nI t)), some (.int (nI r)), some (.int a.1), some (.int ((nI i) + (nI 1))), some (.int (nI (i % 11))), some (.int (nI (i / 11))), some (.int (nI (((i / 11) - y) + (y - (i / 11))))), none, none]) (st' := []) (I' := a.2) (J' := J) rfl ?_
          refine EV_fg (lv' := [some (.ref 117), some (.int (nI x)), some (.int (nI y)), some (.int (nI t)), some (.int (nI r)), some (.int a.1), some (.int ((nI i) + (nI 1))), none, none, none, none, none]) ⟨rfl, rfl, rfl, rfl, rfl, rfl, rfl, trivial⟩ ?_
          rw [show ((nI i) + (nI 1)) = (nI (i + 1)) from by simp (disch := omega) only [nI_add, tq_mul] <;> exact congrArg nI (by omega)]
          rw [tq_its, show (f_mra1 x y t r w h) i a = (a.1, a.2) from by simp only [f_mra1, if_neg h1, if_pos h2, if_pos h3]] at kk
          have ihx := ih (i + 1) (a.1, a.2) (by omega)
          dsimp only at ihx
          exact ihx hI kk
        · skip
          have hc := tq_b10 h3
          have hxy := tr_corner.ix hI.1 hc
          have hw10 := hI.1.2.2.2.1
          have hh10 := hI.1.2.2.2.2.2
          rw [tq_N_nI (by omega), tq_N_nI (by omega)] at hxy
          refine EV_blk (own := 12) C rfl [(.aload_n 0, 0, 0, 0, 0), (.aload_n 0, 0, 0, 0, 0), (.iload 7, 0, 0, 0, 0), (.iload 8, 0, 0, 0, 0)] (pc' := 106) (by decide +kernel) (lv' := [some (.ref 117), some (.int (nI x)), some (.int (nI y)), some (.int (nI t)), some (.int (nI r)), some (.int a.1), some (.int (nI i)), some (.int (nI (i % 11))), some (.int (nI (i / 11))), some (.int (nI (((i / 11) - y) + (y - (i / 11))))), none, none]) (st' := [.int (nI (i / 11)), .int (nI (i % 11)), .ref 117, .ref 117]) (I' := a.2) (J' := J) rfl ?_
          refine EV_cV (own := 12) (idx := 76) (μ' := mX12_cornerOf) (b := 117) (cb := 12) (av := [.int (nI (i % 11)), .int (nI (i / 11))]) (rest := [.ref 117]) C hR rfl (Or.inl ⟨1006, by decide⟩) kX12_cornerOf sX12_cornerOf (c_X12_cornerOf g a.2 J (i % 11) (i / 11) (by omega) (by omega)) rfl rfl (by decide +kernel) rfl (by decide) (Nat.le_of_ble_eq_true rfl) rfl ⟨Nat.zero_le _, Nat.zero_le _⟩ ?_
          refine EV_cV (own := 12) (idx := 103) (μ' := mX12_rankOf) (b := 117) (cb := 12) (av := [.int (a.2 118 (22 + 11 * (i / 11) + (i % 11)))]) (rest := []) C hR rfl (Or.inl ⟨1042, by decide⟩) kX12_rankOf sX12_rankOf (c_rankOf g a.2 J (a.2 118 (22 + 11 * (i / 11) + (i % 11))) (hI.2.1.has (hI.2.2.at (by omega) (by omega)))) rfl rfl (by decide +kernel) rfl (by decide) (Nat.le_of_ble_eq_true rfl) rfl ⟨Nat.zero_le _, Nat.zero_le _⟩ ?_
          refine EV_blk (own := 12) C rfl [(.istore 10, 0, 0, 0, 0), (.iload 10, 0, 0, 0, 0), (.iload 4, 0, 0, 0, 0), (.iload 9, 0, 0, 0, 0), (.isub, 0, 0, 0, 0)] (pc' := 121) (by decide +kernel) (lv' := [some (.ref 117), some (.int (nI x)), some (.int (nI y)), some (.int (nI t)), some (.int (nI r)), some (.int a.1), some (.int (nI i)), some (.int (nI (i % 11))), some (.int (nI (i / 11))), some (.int (nI (((i / 11) - y) + (y - (i / 11))))), some (.int (nI (tr_rk a.2 (a.2 118 (22 + 11 * (i / 11) + (i % 11)))))), none]) (st' := [.int ((nI r) - (nI (((i / 11) - y) + (y - (i / 11))))), .int (nI (tr_rk a.2 (a.2 118 (22 + 11 * (i / 11) + (i % 11)))))]) (I' := a.2) (J' := J) rfl ?_
          refine EV_icmp_ge (off := 11) (tgt := 132) C (by decide +kernel) (by decide) (fun h4 => ?_) (fun h4 => ?_)
          · skip
            refine EV_blk (own := 12) C rfl [(.iload 10, 0, 0, 0, 0), (.iload 4, 0, 0, 0, 0), (.iload 9, 0, 0, 0, 0), (.iadd, 0, 0, 0, 0)] (pc' := 139) (by decide +kernel) (lv' := [some (.ref 117), some (.int (nI x)), some (.int (nI y)), some (.int (nI t)), some (.int (nI r)), some (.int a.1), some (.int (nI i)), some (.int (nI (i % 11))), some (.int (nI (i / 11))), some (.int (nI (((i / 11) - y) + (y - (i / 11))))), some (.int (nI (tr_rk a.2 (a.2 118 (22 + 11 * (i / 11) + (i % 11)))))), none]) (st' := [.int ((nI r) + (nI (((i / 11) - y) + (y - (i / 11))))), .int (nI (tr_rk a.2 (a.2 118 (22 + 11 * (i / 11) + (i % 11)))))]) (I' := a.2) (J' := J) rfl ?_
            refine EV_icmp_le (off := 11) (tgt := 150) C (by decide +kernel) (by decide) (fun h5 => ?_) (fun h5 => ?_)
            · skip
              refine EV_blk (own := 12) C rfl [(.iload 10, 0, 0, 0, 0), (.istore 11, 0, 0, 0, 0), (.iload 5, 0, 0, 0, 0), (.aload_n 0, 0, 0, 0, 0), (.iload 7, 0, 0, 0, 0), (.iload 8, 0, 0, 0, 0), (.aload_n 0, 0, 0, 0, 0), (.getfield 7, 12, 0, 899, 0), (.iconst 4, 0, 0, 0, (nI 4)), (.iload 11, 0, 0, 0, 0), (.iadd, 0, 0, 0, 0)] (pc' := 169) (by decide +kernel) (lv' := [some (.ref 117), some (.int (nI x)), some (.int (nI y)), some (.int (nI t)), some (.int (nI r)), some (.int a.1), some (.int (nI i)), some (.int (nI (i % 11))), some (.int (nI (i / 11))), some (.int (nI (((i / 11) - y) + (y - (i / 11))))), some (.int (nI (tr_rk a.2 (a.2 118 (22 + 11 * (i / 11) + (i % 11)))))), some (.int (nI (tr_rk a.2 (a.2 118 (22 + 11 * (i / 11) + (i % 11))))))]) (st' := [.int ((nI 4) + (nI (tr_rk a.2 (a.2 118 (22 + 11 * (i / 11) + (i % 11)))))), .ref 118, .int (nI (i / 11)), .int (nI (i % 11)), .ref 117, .int a.1]) (I' := a.2) (J' := J) rfl ?_
              have hq2 := tr_rk5 a.2 (a.2 118 (22 + 11 * (i / 11) + i % 11))
              have hq3 := hI.2.1.2 ((tr_rk a.2 (a.2 118 (22 + 11 * (i / 11) + i % 11)))) (by omega)
              refine EV_iald (j := (4 + (tr_rk a.2 (a.2 118 (22 + 11 * (i / 11) + i % 11))))) C (by decide +kernel) rfl (tq_toI _ (by simp only [nI_add]) (by omega)) (by omega) ?_
              refine EV_cV (own := 12) (idx := 90) (μ' := mX12_lays) (b := 117) (cb := 12) (av := [.int (nI (i % 11)), .int (nI (i / 11)), .int (a.2 118 (4 + (tr_rk a.2 (a.2 118 (22 + 11 * (i / 11) + i % 11)))))]) (rest := [.int a.1]) C hR rfl (Or.inl ⟨1010, by decide⟩) kX12_lays sX12_lays (c_X12_lays g a.2 J (i % 11) (i / 11) (a.2 118 (4 + (tr_rk a.2 (a.2 118 (22 + 11 * (i / 11) + i % 11))))) w h (by omega) (by omega) hI.1) rfl rfl (by decide +kernel) rfl (by decide) (Nat.le_of_ble_eq_true rfl) rfl ⟨Nat.zero_le _, Nat.zero_le _⟩ ?_
              refine EV_blk (own := 12) C rfl [(.iadd, 0, 0, 0, 0), (.istore 5, 0, 0, 0, 0), (.iinc 6 1, 0, 0, 0, (nI 1)), (.goto (-143), 0, 0, 0, 0)] (pc' := 36) (by decide +kernel) (lv' := [some (.ref 117), some (.int (nI x)), some (.int (nI y)), some (.int (nI t)), some (.int (nI r)), some (.int (a.1 + (r_X12_lays a.2 (i % 11) (i / 11) (a.2 118 (4 + (tr_rk a.2 (a.2 118 (22 + 11 * (i / 11) + i % 11))))) w h))), some (.int ((nI i) + (nI 1))), some (.int (nI (i % 11))), some (.int (nI (i / 11))), some (.int (nI (((i / 11) - y) + (y - (i / 11))))), some (.int (nI (tr_rk a.2 (a.2 118 (22 + 11 * (i / 11) + (i % 11)))))), some (.int (nI (tr_rk a.2 (a.2 118 (22 + 11 * (i / 11) + (i % 11))))))]) (st' := []) (I' := (I_X12_lays a.2 (i % 11) (i / 11) (a.2 118 (4 + (tr_rk a.2 (a.2 118 (22 + 11 * (i / 11) + i % 11))))) w h)) (J' := J) rfl ?_
              refine EV_fg (lv' := [some (.ref 117), some (.int (nI x)), some (.int (nI y)), some (.int (nI t)), some (.int (nI r)), some (.int (a.1 + (r_X12_lays a.2 (i % 11) (i / 11) (a.2 118 (4 + (tr_rk a.2 (a.2 118 (22 + 11 * (i / 11) + i % 11))))) w h))), some (.int ((nI i) + (nI 1))), none, none, none, none, none]) ⟨rfl, rfl, rfl, rfl, rfl, rfl, rfl, trivial⟩ ?_
              rw [show ((nI i) + (nI 1)) = (nI (i + 1)) from by simp (disch := omega) only [nI_add, tq_mul] <;> exact congrArg nI (by omega)]
              rw [tq_its, show (f_mra1 x y t r w h) i a = ((a.1 + (r_X12_lays a.2 (i % 11) (i / 11) (a.2 118 (4 + (tr_rk a.2 (a.2 118 (22 + 11 * (i / 11) + i % 11))))) w h)), (I_X12_lays a.2 (i % 11) (i / 11) (a.2 118 (4 + (tr_rk a.2 (a.2 118 (22 + 11 * (i / 11) + i % 11))))) w h)) from by simp only [f_mra1, if_neg h1, if_pos h2, if_neg h3, if_pos h4, if_pos h5]] at kk
              have ihx := ih (i + 1) ((a.1 + (r_X12_lays a.2 (i % 11) (i / 11) (a.2 118 (4 + (tr_rk a.2 (a.2 118 (22 + 11 * (i / 11) + i % 11))))) w h)), (I_X12_lays a.2 (i % 11) (i / 11) (a.2 118 (4 + (tr_rk a.2 (a.2 118 (22 + 11 * (i / 11) + i % 11))))) w h)) (by omega)
              dsimp only at ihx
              exact ihx ⟨hI.1.lays, hI.2.1.lays hI.1, hI.2.2.lays hI.1 hq3⟩ kk
            · skip
              refine EV_blk (own := 12) C rfl [(.iload 4, 0, 0, 0, 0), (.iload 9, 0, 0, 0, 0), (.iadd, 0, 0, 0, 0), (.goto 5, 0, 0, 0, 0), (.istore 11, 0, 0, 0, 0), (.iload 5, 0, 0, 0, 0), (.aload_n 0, 0, 0, 0, 0), (.iload 7, 0, 0, 0, 0), (.iload 8, 0, 0, 0, 0), (.aload_n 0, 0, 0, 0, 0), (.getfield 7, 12, 0, 899, 0), (.iconst 4, 0, 0, 0, (nI 4)), (.iload 11, 0, 0, 0, 0), (.iadd, 0, 0, 0, 0)] (pc' := 169) (by decide +kernel) (lv' := [some (.ref 117), some (.int (nI x)), some (.int (nI y)), some (.int (nI t)), some (.int (nI r)), some (.int a.1), some (.int (nI i)), some (.int (nI (i % 11))), some (.int (nI (i / 11))), some (.int (nI (((i / 11) - y) + (y - (i / 11))))), some (.int (nI (tr_rk a.2 (a.2 118 (22 + 11 * (i / 11) + (i % 11)))))), some (.int ((nI r) + (nI (((i / 11) - y) + (y - (i / 11))))))]) (st' := [.int ((nI 4) + ((nI r) + (nI (((i / 11) - y) + (y - (i / 11)))))), .ref 118, .int (nI (i / 11)), .int (nI (i % 11)), .ref 117, .int a.1]) (I' := a.2) (J' := J) rfl ?_
              have hq1 := tr_rs2 (a := (tr_rk a.2 (a.2 118 (22 + 11 * (i / 11) + i % 11)))) (b := r) (c := (((i / 11) - y) + (y - (i / 11)))) (by have := tr_rk5 a.2 (a.2 118 (22 + 11 * (i / 11) + i % 11)); omega) (by omega) (by omega) h5
              have hq2 := tr_rk5 a.2 (a.2 118 (22 + 11 * (i / 11) + i % 11))
              have hq3 := hI.2.1.2 ((r + (((i / 11) - y) + (y - (i / 11))))) (by omega)
              refine EV_iald (j := (4 + (r + (((i / 11) - y) + (y - (i / 11)))))) C (by decide +kernel) rfl (tq_toI _ (by simp only [nI_add]) (by omega)) (by omega) ?_
              refine EV_cV (own := 12) (idx := 90) (μ' := mX12_lays) (b := 117) (cb := 12) (av := [.int (nI (i % 11)), .int (nI (i / 11)), .int (a.2 118 (4 + (r + (((i / 11) - y) + (y - (i / 11))))))]) (rest := [.int a.1]) C hR rfl (Or.inl ⟨1010, by decide⟩) kX12_lays sX12_lays (c_X12_lays g a.2 J (i % 11) (i / 11) (a.2 118 (4 + (r + (((i / 11) - y) + (y - (i / 11)))))) w h (by omega) (by omega) hI.1) rfl rfl (by decide +kernel) rfl (by decide) (Nat.le_of_ble_eq_true rfl) rfl ⟨Nat.zero_le _, Nat.zero_le _⟩ ?_
              refine EV_blk (own := 12) C rfl [(.iadd, 0, 0, 0, 0), (.istore 5, 0, 0, 0, 0), (.iinc 6 1, 0, 0, 0, (nI 1)), (.goto (-143), 0, 0, 0, 0)] (pc' := 36) (by decide +kernel) (lv' := [some (.ref 117), some (.int (nI x)), some (.int (nI y)), some (.int (nI t)), some (.int (nI r)), some (.int (a.1 + (r_X12_lays a.2 (i % 11) (i / 11) (a.2 118 (4 + (r + (((i / 11) - y) + (y - (i / 11)))))) w h))), some (.int ((nI i) + (nI 1))), some (.int (nI (i % 11))), some (.int (nI (i / 11))), some (.int (nI (((i / 11) - y) + (y - (i / 11))))), some (.int (nI (tr_rk a.2 (a.2 118 (22 + 11 * (i / 11) + (i % 11)))))), some (.int ((nI r) + (nI (((i / 11) - y) + (y - (i / 11))))))]) (st' := []) (I' := (I_X12_lays a.2 (i % 11) (i / 11) (a.2 118 (4 + (r + (((i / 11) - y) + (y - (i / 11)))))) w h)) (J' := J) rfl ?_
              refine EV_fg (lv' := [some (.ref 117), some (.int (nI x)), some (.int (nI y)), some (.int (nI t)), some (.int (nI r)), some (.int (a.1 + (r_X12_lays a.2 (i % 11) (i / 11) (a.2 118 (4 + (r + (((i / 11) - y) + (y - (i / 11)))))) w h))), some (.int ((nI i) + (nI 1))), none, none, none, none, none]) ⟨rfl, rfl, rfl, rfl, rfl, rfl, rfl, trivial⟩ ?_
              rw [show ((nI i) + (nI 1)) = (nI (i + 1)) from by simp (disch := omega) only [nI_add, tq_mul] <;> exact congrArg nI (by omega)]
              rw [tq_its, show (f_mra1 x y t r w h) i a = ((a.1 + (r_X12_lays a.2 (i % 11) (i / 11) (a.2 118 (4 + (r + (((i / 11) - y) + (y - (i / 11)))))) w h)), (I_X12_lays a.2 (i % 11) (i / 11) (a.2 118 (4 + (r + (((i / 11) - y) + (y - (i / 11)))))) w h)) from by simp only [f_mra1, if_neg h1, if_pos h2, if_neg h3, if_pos h4, if_neg h5]] at kk
              have ihx := ih (i + 1) ((a.1 + (r_X12_lays a.2 (i % 11) (i / 11) (a.2 118 (4 + (r + (((i / 11) - y) + (y - (i / 11)))))) w h)), (I_X12_lays a.2 (i % 11) (i / 11) (a.2 118 (4 + (r + (((i / 11) - y) + (y - (i / 11)))))) w h)) (by omega)
              dsimp only at ihx
              exact ihx ⟨hI.1.lays, hI.2.1.lays hI.1, hI.2.2.lays hI.1 hq3⟩ kk
          · skip
            refine EV_blk (own := 12) C rfl [(.iload 4, 0, 0, 0, 0), (.iload 9, 0, 0, 0, 0), (.isub, 0, 0, 0, 0), (.goto 23, 0, 0, 0, 0), (.istore 11, 0, 0, 0, 0), (.iload 5, 0, 0, 0, 0), (.aload_n 0, 0, 0, 0, 0), (.iload 7, 0, 0, 0, 0), (.iload 8, 0, 0, 0, 0), (.aload_n 0, 0, 0, 0, 0), (.getfield 7, 12, 0, 899, 0), (.iconst 4, 0, 0, 0, (nI 4)), (.iload 11, 0, 0, 0, 0), (.iadd, 0, 0, 0, 0)] (pc' := 169) (by decide +kernel) (lv' := [some (.ref 117), some (.int (nI x)), some (.int (nI y)), some (.int (nI t)), some (.int (nI r)), some (.int a.1), some (.int (nI i)), some (.int (nI (i % 11))), some (.int (nI (i / 11))), some (.int (nI (((i / 11) - y) + (y - (i / 11))))), some (.int (nI (tr_rk a.2 (a.2 118 (22 + 11 * (i / 11) + (i % 11)))))), some (.int ((nI r) - (nI (((i / 11) - y) + (y - (i / 11))))))]) (st' := [.int ((nI 4) + ((nI r) - (nI (((i / 11) - y) + (y - (i / 11)))))), .ref 118, .int (nI (i / 11)), .int (nI (i % 11)), .ref 117, .int a.1]) (I' := a.2) (J' := J) rfl ?_
            have hq1 := tr_rs1 (tr_rk a.2 (a.2 118 (22 + 11 * (i / 11) + i % 11))) (by have := tr_rk5 a.2 (a.2 118 (22 + 11 * (i / 11) + i % 11)); omega) r (by omega) (((i / 11) - y) + (y - (i / 11))) (by omega) h4
            have hq3 := hI.2.1.2 ((r - (((i / 11) - y) + (y - (i / 11))))) (by omega)
            refine EV_iald (j := (4 + (r - (((i / 11) - y) + (y - (i / 11)))))) C (by decide +kernel) rfl (tq_toI _ (by rw [tq_sub_nI (by omega), nI_add]) (by omega)) (by omega) ?_
            refine EV_cV (own := 12) (idx := 90) (μ' := mX12_lays) (b := 117) (cb := 12) (av := [.int (nI (i % 11)), .int (nI (i / 11)), .int (a.2 118 (4 + (r - (((i / 11) - y) + (y - (i / 11))))))]) (rest := [.int a.1]) C hR rfl (Or.inl ⟨1010, by decide⟩) kX12_lays sX12_lays (c_X12_lays g a.2 J (i % 11) (i / 11) (a.2 118 (4 + (r - (((i / 11) - y) + (y - (i / 11)))))) w h (by omega) (by omega) hI.1) rfl rfl (by decide +kernel) rfl (by decide) (Nat.le_of_ble_eq_true rfl) rfl ⟨Nat.zero_le _, Nat.zero_le _⟩ ?_
            refine EV_blk (own := 12) C rfl [(.iadd, 0, 0, 0, 0), (.istore 5, 0, 0, 0, 0), (.iinc 6 1, 0, 0, 0, (nI 1)), (.goto (-143), 0, 0, 0, 0)] (pc' := 36) (by decide +kernel) (lv' := [some (.ref 117), some (.int (nI x)), some (.int (nI y)), some (.int (nI t)), some (.int (nI r)), some (.int (a.1 + (r_X12_lays a.2 (i % 11) (i / 11) (a.2 118 (4 + (r - (((i / 11) - y) + (y - (i / 11)))))) w h))), some (.int ((nI i) + (nI 1))), some (.int (nI (i % 11))), some (.int (nI (i / 11))), some (.int (nI (((i / 11) - y) + (y - (i / 11))))), some (.int (nI (tr_rk a.2 (a.2 118 (22 + 11 * (i / 11) + (i % 11)))))), some (.int ((nI r) - (nI (((i / 11) - y) + (y - (i / 11))))))]) (st' := []) (I' := (I_X12_lays a.2 (i % 11) (i / 11) (a.2 118 (4 + (r - (((i / 11) - y) + (y - (i / 11)))))) w h)) (J' := J) rfl ?_
            refine EV_fg (lv' := [some (.ref 117), some (.int (nI x)), some (.int (nI y)), some (.int (nI t)), some (.int (nI r)), some (.int (a.1 + (r_X12_lays a.2 (i % 11) (i / 11) (a.2 118 (4 + (r - (((i / 11) - y) + (y - (i / 11)))))) w h))), some (.int ((nI i) + (nI 1))), none, none, none, none, none]) ⟨rfl, rfl, rfl, rfl, rfl, rfl, rfl, trivial⟩ ?_
            rw [show ((nI i) + (nI 1)) = (nI (i + 1)) from by simp (disch := omega) only [nI_add, tq_mul] <;> exact congrArg nI (by omega)]
            rw [tq_its, show (f_mra1 x y t r w h) i a = ((a.1 + (r_X12_lays a.2 (i % 11) (i / 11) (a.2 118 (4 + (r - (((i / 11) - y) + (y - (i / 11)))))) w h)), (I_X12_lays a.2 (i % 11) (i / 11) (a.2 118 (4 + (r - (((i / 11) - y) + (y - (i / 11)))))) w h)) from by simp only [f_mra1, if_neg h1, if_pos h2, if_neg h3, if_neg h4]] at kk
            have ihx := ih (i + 1) ((a.1 + (r_X12_lays a.2 (i % 11) (i / 11) (a.2 118 (4 + (r - (((i / 11) - y) + (y - (i / 11)))))) w h)), (I_X12_lays a.2 (i % 11) (i / 11) (a.2 118 (4 + (r - (((i / 11) - y) + (y - (i / 11)))))) w h)) (by omega)
            dsimp only at ihx
            exact ihx ⟨hI.1.lays, hI.2.1.lays hI.1, hI.2.2.lays hI.1 hq3⟩ kk
      · skip
        refine EV_blk (own := 12) C rfl [(.iload 7, 0, 0, 0, 0), (.iload_n 1, 0, 0, 0, 0)] (pc' := 75) (by decide +kernel) (lv' := [some (.ref 117), some (.int (nI x)), some (.int (nI y)), some (.int (nI t)), some (.int (nI r)), some (.int a.1), some (.int (nI i)), some (.int (nI (i % 11))), some (.int (nI (i / 11))), none, none, none]) (st' := [.int (nI x), .int (nI (i % 11))]) (I' := a.2) (J' := J) rfl ?_
        refine EV_cS (own := 12) (idx := 107) (μ' := mX12_size_) (av := [.int (nI (i % 11)), .int (nI x)]) (rest := []) C hR rfl (Or.inl ⟨1046, by decide⟩) kX12_size_ sX12_size_ (c_size_ g a.2 J (i % 11) x (by omega) (by omega)) (by decide +kernel) rfl (by decide) (Nat.le_of_ble_eq_true rfl) rfl ⟨Nat.zero_le _, Nat.zero_le _⟩ ?_
        refine EV_blk (own := 12) C rfl [(.goto 9, 0, 0, 0, 0), (.istore 9, 0, 0, 0, 0), (.aload_n 0, 0, 0, 0, 0), (.iload 7, 0, 0, 0, 0), (.iload 8, 0, 0, 0, 0)] (pc' := 94) (by decide +kernel) (lv' := [some (.ref 117), some (.int (nI x)), some (.int (nI y)), some (.int (nI t)), some (.int (nI r)), some (.int a.1), some (.int (nI i)), some (.int (nI (i % 11))), some (.int (nI (i / 11))), some (.int (nI (((i % 11) - x) + (x - (i % 11))))), none, none]) (st' := [.int (nI (i / 11)), .int (nI (i % 11)), .ref 117]) (I' := a.2) (J' := J) rfl ?_
        refine EV_cV (own := 12) (idx := 87) (μ' := mX12_isCorner) (b := 117) (cb := 12) (av := [.int (nI (i % 11)), .int (nI (i / 11))]) (rest := []) C hR rfl (Or.inl ⟨1002, by decide⟩) kX12_isCorner sX12_isCorner (c_X12_isCorner g a.2 J (nI (i % 11)) (nI (i / 11)) ) rfl rfl (by decide +kernel) rfl (by decide) (Nat.le_of_ble_eq_true rfl) rfl ⟨Nat.zero_le _, Nat.zero_le _⟩ ?_
        refine EV_if_eq (off := 79) (tgt := 176) C (by decide +kernel) (by decide) (fun h6 => ?_) (fun h6 => ?_)
        · skip
          refine EV_blk (own := 12) C rfl [(.iinc 6 1, 0, 0, 0, (nI 1)), (.goto (-143), 0, 0, 0, 0)] (pc' := 36) (by decide +kernel) (lv' := [some (.ref 117), some (.int (nI x)), some (.int (nI y)), some (.int (nI t)), some (.int (nI r)), some (.int a.1), some (.int ((nI i) + (nI 1))), some (.int (nI (i % 11))), some (.int (nI (i / 11))), some (.int (nI (((i % 11) - x) + (x - (i % 11))))), none, none]) (st' := []) (I' := a.2) (J' := J) rfl ?_
          refine EV_fg (lv' := [some (.ref 117), some (.int (nI x)), some (.int (nI y)), some (.int (nI t)), some (.int (nI r)), some (.int a.1), some (.int ((nI i) + (nI 1))), none, none, none, none, none]) ⟨rfl, rfl, rfl, rfl, rfl, rfl, rfl, trivial⟩ ?_
          rw [show ((nI i) + (nI 1)) = (nI (i + 1)) from by simp (disch := omega) only [nI_add, tq_mul] <;> exact congrArg nI (by omega)]
          rw [tq_its, show (f_mra1 x y t r w h) i a = (a.1, a.2) from by simp only [f_mra1, if_neg h1, if_neg h2, if_pos h6]] at kk
          have ihx := ih (i + 1) (a.1, a.2) (by omega)
          dsimp only at ihx
          exact ihx hI kk
        · skip
          have hc := tq_b10 h6
          have hxy := tr_corner.ix hI.1 hc
          have hw10 := hI.1.2.2.2.1
          have hh10 := hI.1.2.2.2.2.2
          rw [tq_N_nI (by omega), tq_N_nI (by omega)] at hxy
          refine EV_blk (own := 12) C rfl [(.aload_n 0, 0, 0, 0, 0), (.aload_n 0, 0, 0, 0, 0), (.iload 7, 0, 0, 0, 0), (.iload 8, 0, 0, 0, 0)] (pc' := 106) (by decide +kernel) (lv' := [some (.ref 117), some (.int (nI x)), some (.int (nI y)), some (.int (nI t)), some (.int (nI r)), some (.int a.1), some (.int (nI i)), some (.int (nI (i % 11))), some (.int (nI (i / 11))), some (.int (nI (((i % 11) - x) + (x - (i % 11))))), none, none]) (st' := [.int (nI (i / 11)), .int (nI (i % 11)), .ref 117, .ref 117]) (I' := a.2) (J' := J) rfl ?_
          refine EV_cV (own := 12) (idx := 76) (μ' := mX12_cornerOf) (b := 117) (cb := 12) (av := [.int (nI (i % 11)), .int (nI (i / 11))]) (rest := [.ref 117]) C hR rfl (Or.inl ⟨1006, by decide⟩) kX12_cornerOf sX12_cornerOf (c_X12_cornerOf g a.2 J (i % 11) (i / 11) (by omega) (by omega)) rfl rfl (by decide +kernel) rfl (by decide) (Nat.le_of_ble_eq_true rfl) rfl ⟨Nat.zero_le _, Nat.zero_le _⟩ ?_
          refine EV_cV (own := 12) (idx := 103) (μ' := mX12_rankOf) (b := 117) (cb := 12) (av := [.int (a.2 118 (22 + 11 * (i / 11) + (i % 11)))]) (rest := []) C hR rfl (Or.inl ⟨1042, by decide⟩) kX12_rankOf sX12_rankOf (c_rankOf g a.2 J (a.2 118 (22 + 11 * (i / 11) + (i % 11))) (hI.2.1.has (hI.2.2.at (by omega) (by omega)))) rfl rfl (by decide +kernel) rfl (by decide) (Nat.le_of_ble_eq_true rfl) rfl ⟨Nat.zero_le _, Nat.zero_le _⟩ ?_
          refine EV_blk (own := 12) C rfl [(.istore 10, 0, 0, 0, 0), (.iload 10, 0, 0, 0, 0), (.iload 4, 0, 0, 0, 0), (.iload 9, 0, 0, 0, 0), (.isub, 0, 0, 0, 0)] (pc' := 121) (by decide +kernel) (lv' := [some (.ref 117), some (.int (nI x)), some (.int (nI y)), some (.int (nI t)), some (.int (nI r)), some (.int a.1), some (.int (nI i)), some (.int (nI (i % 11))), some (.int (nI (i / 11))), some (.int (nI (((i % 11) - x) + (x - (i % 11))))), some (.int (nI (tr_rk a.2 (a.2 118 (22 + 11 * (i / 11) + (i % 11)))))), none]) (st' := [.int ((nI r) - (nI (((i % 11) - x) + (x - (i % 11))))), .int (nI (tr_rk a.2 (a.2 118 (22 + 11 * (i / 11) + (i % 11)))))]) (I' := a.2) (J' := J) rfl ?_
          refine EV_icmp_ge (off := 11) (tgt := 132) C (by decide +kernel) (by decide) (fun h7 => ?_) (fun h7 => ?_)
          · skip
            refine EV_blk (own := 12) C rfl [(.iload 10, 0, 0, 0, 0), (.iload 4, 0, 0, 0, 0), (.iload 9, 0, 0, 0, 0), (.iadd, 0, 0, 0, 0)] (pc' := 139) (by decide +kernel) (lv' := [some (.ref 117), some (.int (nI x)), some (.int (nI y)), some (.int (nI t)), some (.int (nI r)), some (.int a.1), some (.int (nI i)), some (.int (nI (i % 11))), some (.int (nI (i / 11))), some (.int (nI (((i % 11) - x) + (x - (i % 11))))), some (.int (nI (tr_rk a.2 (a.2 118 (22 + 11 * (i / 11) + (i % 11)))))), none]) (st' := [.int ((nI r) + (nI (((i % 11) - x) + (x - (i % 11))))), .int (nI (tr_rk a.2 (a.2 118 (22 + 11 * (i / 11) + (i % 11)))))]) (I' := a.2) (J' := J) rfl ?_
            refine EV_icmp_le (off := 11) (tgt := 150) C (by decide +kernel) (by decide) (fun h8 => ?_) (fun h8 => ?_)
            · skip
              refine EV_blk (own := 12) C rfl [(.iload 10, 0, 0, 0, 0), (.istore 11, 0, 0, 0, 0), (.iload 5, 0, 0, 0, 0), (.aload_n 0, 0, 0, 0, 0), (.iload 7, 0, 0, 0, 0), (.iload 8, 0, 0, 0, 0), (.aload_n 0, 0, 0, 0, 0), (.getfield 7, 12, 0, 899, 0), (.iconst 4, 0, 0, 0, (nI 4)), (.iload 11, 0, 0, 0, 0), (.iadd, 0, 0, 0, 0)] (pc' := 169) (by decide +kernel) (lv' := [some (.ref 117), some (.int (nI x)), some (.int (nI y)), some (.int (nI t)), some (.int (nI r)), some (.int a.1), some (.int (nI i)), some (.int (nI (i % 11))), some (.int (nI (i / 11))), some (.int (nI (((i % 11) - x) + (x - (i % 11))))), some (.int (nI (tr_rk a.2 (a.2 118 (22 + 11 * (i / 11) + (i % 11)))))), some (.int (nI (tr_rk a.2 (a.2 118 (22 + 11 * (i / 11) + (i % 11))))))]) (st' := [.int ((nI 4) + (nI (tr_rk a.2 (a.2 118 (22 + 11 * (i / 11) + (i % 11)))))), .ref 118, .int (nI (i / 11)), .int (nI (i % 11)), .ref 117, .int a.1]) (I' := a.2) (J' := J) rfl ?_
              have hq2 := tr_rk5 a.2 (a.2 118 (22 + 11 * (i / 11) + i % 11))
              have hq3 := hI.2.1.2 ((tr_rk a.2 (a.2 118 (22 + 11 * (i / 11) + i % 11)))) (by omega)
              refine EV_iald (j := (4 + (tr_rk a.2 (a.2 118 (22 + 11 * (i / 11) + i % 11))))) C (by decide +kernel) rfl (tq_toI _ (by simp only [nI_add]) (by omega)) (by omega) ?_
              refine EV_cV (own := 12) (idx := 90) (μ' := mX12_lays) (b := 117) (cb := 12) (av := [.int (nI (i % 11)), .int (nI (i / 11)), .int (a.2 118 (4 + (tr_rk a.2 (a.2 118 (22 + 11 * (i / 11) + i % 11)))))]) (rest := [.int a.1]) C hR rfl (Or.inl ⟨1010, by decide⟩) kX12_lays sX12_lays (c_X12_lays g a.2 J (i % 11) (i / 11) (a.2 118 (4 + (tr_rk a.2 (a.2 118 (22 + 11 * (i / 11) + i % 11))))) w h (by omega) (by omega) hI.1) rfl rfl (by decide +kernel) rfl (by decide) (Nat.le_of_ble_eq_true rfl) rfl ⟨Nat.zero_le _, Nat.zero_le _⟩ ?_
              refine EV_blk (own := 12) C rfl [(.iadd, 0, 0, 0, 0), (.istore 5, 0, 0, 0, 0), (.iinc 6 1, 0, 0, 0, (nI 1)), (.goto (-143), 0, 0, 0, 0)] (pc' := 36) (by decide +kernel) (lv' := [some (.ref 117), some (.int (nI x)), some (.int (nI y)), some (.int (nI t)), some (.int (nI r)), some (.int (a.1 + (r_X12_lays a.2 (i % 11) (i / 11) (a.2 118 (4 + (tr_rk a.2 (a.2 118 (22 + 11 * (i / 11) + i % 11))))) w h))), some (.int ((nI i) + (nI 1))), some (.int (nI (i % 11))), some (.int (nI (i / 11))), some (.int (nI (((i % 11) - x) + (x - (i % 11))))), some (.int (nI (tr_rk a.2 (a.2 118 (22 + 11 * (i / 11) + (i % 11)))))), some (.int (nI (tr_rk a.2 (a.2 118 (22 + 11 * (i / 11) + (i % 11))))))]) (st' := []) (I' := (I_X12_lays a.2 (i % 11) (i / 11) (a.2 118 (4 + (tr_rk a.2 (a.2 118 (22 + 11 * (i / 11) + i % 11))))) w h)) (J' := J) rfl ?_
              refine EV_fg (lv' := [some (.ref 117), some (.int (nI x)), some (.int (nI y)), some (.int (nI t)), some (.int (nI r)), some (.int (a.1 + (r_X12_lays a.2 (i % 11) (i / 11) (a.2 118 (4 + (tr_rk a.2 (a.2 118 (22 + 11 * (i / 11) + i % 11))))) w h))), some (.int ((nI i) + (nI 1))), none, none, none, none, none]) ⟨rfl, rfl, rfl, rfl, rfl, rfl, rfl, trivial⟩ ?_
              rw [show ((nI i) + (nI 1)) = (nI (i + 1)) from by simp (disch := omega) only [nI_add, tq_mul] <;> exact congrArg nI (by omega)]
              rw [tq_its, show (f_mra1 x y t r w h) i a = ((a.1 + (r_X12_lays a.2 (i % 11) (i / 11) (a.2 118 (4 + (tr_rk a.2 (a.2 118 (22 + 11 * (i / 11) + i % 11))))) w h)), (I_X12_lays a.2 (i % 11) (i / 11) (a.2 118 (4 + (tr_rk a.2 (a.2 118 (22 + 11 * (i / 11) + i % 11))))) w h)) from by simp only [f_mra1, if_neg h1, if_neg h2, if_neg h6, if_pos h7, if_pos h8]] at kk
              have ihx := ih (i + 1) ((a.1 + (r_X12_lays a.2 (i % 11) (i / 11) (a.2 118 (4 + (tr_rk a.2 (a.2 118 (22 + 11 * (i / 11) + i % 11))))) w h)), (I_X12_lays a.2 (i % 11) (i / 11) (a.2 118 (4 + (tr_rk a.2 (a.2 118 (22 + 11 * (i / 11) + i % 11))))) w h)) (by omega)
              dsimp only at ihx
              exact ihx ⟨hI.1.lays, hI.2.1.lays hI.1, hI.2.2.lays hI.1 hq3⟩ kk
            · skip
              refine EV_blk (own := 12) C rfl [(.iload 4, 0, 0, 0, 0), (.iload 9, 0, 0, 0, 0), (.iadd, 0, 0, 0, 0), (.goto 5, 0, 0, 0, 0), (.istore 11, 0, 0, 0, 0), (.iload 5, 0, 0, 0, 0), (.aload_n 0, 0, 0, 0, 0), (.iload 7, 0, 0, 0, 0), (.iload 8, 0, 0, 0, 0), (.aload_n 0, 0, 0, 0, 0), (.getfield 7, 12, 0, 899, 0), (.iconst 4, 0, 0, 0, (nI 4)), (.iload 11, 0, 0, 0, 0), (.iadd, 0, 0, 0, 0)] (pc' := 169) (by decide +kernel) (lv' := [some (.ref 117), some (.int (nI x)), some (.int (nI y)), some (.int (nI t)), some (.int (nI r)), some (.int a.1), some (.int (nI i)), some (.int (nI (i % 11))), some (.int (nI (i / 11))), some (.int (nI (((i % 11) - x) + (x - (i % 11))))), some (.int (nI (tr_rk a.2 (a.2 118 (22 + 11 * (i / 11) + (i % 11)))))), some (.int ((nI r) + (nI (((i % 11) - x) + (x - (i % 11))))))]) (st' := [.int ((nI 4) + ((nI r) + (nI (((i % 11) - x) + (x - (i % 11)))))), .ref 118, .int (nI (i / 11)), .int (nI (i % 11)), .ref 117, .int a.1]) (I' := a.2) (J' := J) rfl ?_
              have hq1 := tr_rs2 (a := (tr_rk a.2 (a.2 118 (22 + 11 * (i / 11) + i % 11)))) (b := r) (c := (((i % 11) - x) + (x - (i % 11)))) (by have := tr_rk5 a.2 (a.2 118 (22 + 11 * (i / 11) + i % 11)); omega) (by omega) (by omega) h8
              have hq2 := tr_rk5 a.2 (a.2 118 (22 + 11 * (i / 11) + i % 11))
              have hq3 := hI.2.1.2 ((r + (((i % 11) - x) + (x - (i % 11))))) (by omega)
              refine EV_iald (j := (4 + (r + (((i % 11) - x) + (x - (i % 11)))))) C (by decide +kernel) rfl (tq_toI _ (by simp only [nI_add]) (by omega)) (by omega) ?_
              refine EV_cV (own := 12) (idx := 90) (μ' := mX12_lays) (b := 117) (cb := 12) (av := [.int (nI (i % 11)), .int (nI (i / 11)), .int (a.2 118 (4 + (r + (((i % 11) - x) + (x - (i % 11))))))]) (rest := [.int a.1]) C hR rfl (Or.inl ⟨1010, by decide⟩) kX12_lays sX12_lays (c_X12_lays g a.2 J (i % 11) (i / 11) (a.2 118 (4 + (r + (((i % 11) - x) + (x - (i % 11)))))) w h (by omega) (by omega) hI.1) rfl rfl (by decide +kernel) rfl (by decide) (Nat.le_of_ble_eq_true rfl) rfl ⟨Nat.zero_le _, Nat.zero_le _⟩ ?_
              refine EV_blk (own := 12) C rfl [(.iadd, 0, 0, 0, 0), (.istore 5, 0, 0, 0, 0), (.iinc 6 1, 0, 0, 0, (nI 1)), (.goto (-143), 0, 0, 0, 0)] (pc' := 36) (by decide +kernel) (lv' := [some (.ref 117), some (.int (nI x)), some (.int (nI y)), some (.int (nI t)), some (.int (nI r)), some (.int (a.1 + (r_X12_lays a.2 (i % 11) (i / 11) (a.2 118 (4 + (r + (((i % 11) - x) + (x - (i % 11)))))) w h))), some (.int ((nI i) + (nI 1))), some (.int (nI (i % 11))), some (.int (nI (i / 11))), some (.int (nI (((i % 11) - x) + (x - (i % 11))))), some (.int (nI (tr_rk a.2 (a.2 118 (22 + 11 * (i / 11) + (i % 11)))))), some (.int ((nI r) + (nI (((i % 11) - x) + (x - (i % 11))))))]) (st' := []) (I' := (I_X12_lays a.2 (i % 11) (i / 11) (a.2 118 (4 + (r + (((i % 11) - x) + (x - (i % 11)))))) w h)) (J' := J) rfl ?_
              refine EV_fg (lv' := [some (.ref 117), some (.int (nI x)), some (.int (nI y)), some (.int (nI t)), some (.int (nI r)), some (.int (a.1 + (r_X12_lays a.2 (i % 11) (i / 11) (a.2 118 (4 + (r + (((i % 11) - x) + (x - (i % 11)))))) w h))), some (.int ((nI i) + (nI 1))), none, none, none, none, none]) ⟨rfl, rfl, rfl, rfl, rfl, rfl, rfl, trivial⟩ ?_
              rw [show ((nI i) + (nI 1)) = (nI (i + 1)) from by simp (disch := omega) only [nI_add, tq_mul] <;> exact congrArg nI (by omega)]
              rw [tq_its, show (f_mra1 x y t r w h) i a = ((a.1 + (r_X12_lays a.2 (i % 11) (i / 11) (a.2 118 (4 + (r + (((i % 11) - x) + (x - (i % 11)))))) w h)), (I_X12_lays a.2 (i % 11) (i / 11) (a.2 118 (4 + (r + (((i % 11) - x) + (x - (i % 11)))))) w h)) from by simp only [f_mra1, if_neg h1, if_neg h2, if_neg h6, if_pos h7, if_neg h8]] at kk
              have ihx := ih (i + 1) ((a.1 + (r_X12_lays a.2 (i % 11) (i / 11) (a.2 118 (4 + (r + (((i % 11) - x) + (x - (i % 11)))))) w h)), (I_X12_lays a.2 (i % 11) (i / 11) (a.2 118 (4 + (r + (((i % 11) - x) + (x - (i % 11)))))) w h)) (by omega)
              dsimp only at ihx
              exact ihx ⟨hI.1.lays, hI.2.1.lays hI.1, hI.2.2.lays hI.1 hq3⟩ kk
          · skip
            refine EV_blk (own := 12) C rfl [(.iload 4, 0, 0, 0, 0), (.iload 9, 0, 0, 0, 0), (.isub, 0, 0, 0, 0), (.goto 23, 0, 0, 0, 0), (.istore 11, 0, 0, 0, 0), (.iload 5, 0, 0, 0, 0), (.aload_n 0, 0, 0, 0, 0), (.iload 7, 0, 0, 0, 0), (.iload 8, 0, 0, 0, 0), (.aload_n 0, 0, 0, 0, 0), (.getfield 7, 12, 0, 899, 0), (.iconst 4, 0, 0, 0, (nI 4)), (.iload 11, 0, 0, 0, 0), (.iadd, 0, 0, 0, 0)] (pc' := 169) (by decide +kernel) (lv' := [some (.ref 117), some (.int (nI x)), some (.int (nI y)), some (.int (nI t)), some (.int (nI r)), some (.int a.1), some (.int (nI i)), some (.int (nI (i % 11))), some (.int (nI (i / 11))), some (.int (nI (((i % 11) - x) + (x - (i % 11))))), some (.int (nI (tr_rk a.2 (a.2 118 (22 + 11 * (i / 11) + (i % 11)))))), some (.int ((nI r) - (nI (((i % 11) - x) + (x - (i % 11))))))]) (st' := [.int ((nI 4) + ((nI r) - (nI (((i % 11) - x) + (x - (i % 11)))))), .ref 118, .int (nI (i / 11)), .int (nI (i % 11)), .ref 117, .int a.1]) (I' := a.2) (J' := J) rfl ?_
            have hq1 := tr_rs1 (tr_rk a.2 (a.2 118 (22 + 11 * (i / 11) + i % 11))) (by have := tr_rk5 a.2 (a.2 118 (22 + 11 * (i / 11) + i % 11)); omega) r (by omega) (((i % 11) - x) + (x - (i % 11))) (by omega) h7
            have hq3 := hI.2.1.2 ((r - (((i % 11) - x) + (x - (i % 11))))) (by omega)
            refine EV_iald (j := (4 + (r - (((i % 11) - x) + (x - (i % 11)))))) C (by decide +kernel) rfl (tq_toI _ (by rw [tq_sub_nI (by omega), nI_add]) (by omega)) (by omega) ?_
            refine EV_cV (own := 12) (idx := 90) (μ' := mX12_lays) (b := 117) (cb := 12) (av := [.int (nI (i % 11)), .int (nI (i / 11)), .int (a.2 118 (4 + (r - (((i % 11) - x) + (x - (i % 11))))))]) (rest := [.int a.1]) C hR rfl (Or.inl ⟨1010, by decide⟩) kX12_lays sX12_lays (c_X12_lays g a.2 J (i % 11) (i / 11) (a.2 118 (4 + (r - (((i % 11) - x) + (x - (i % 11)))))) w h (by omega) (by omega) hI.1) rfl rfl (by decide +kernel) rfl (by decide) (Nat.le_of_ble_eq_true rfl) rfl ⟨Nat.zero_le _, Nat.zero_le _⟩ ?_
            refine EV_blk (own := 12) C rfl [(.iadd, 0, 0, 0, 0), (.istore 5, 0, 0, 0, 0), (.iinc 6 1, 0, 0, 0, (nI 1)), (.goto (-143), 0, 0, 0, 0)] (pc' := 36) (by decide +kernel) (lv' := [some (.ref 117), some (.int (nI x)), some (.int (nI y)), some (.int (nI t)), some (.int (nI r)), some (.int (a.1 + (r_X12_lays a.2 (i % 11) (i / 11) (a.2 118 (4 + (r - (((i % 11) - x) + (x - (i % 11)))))) w h))), some (.int ((nI i) + (nI 1))), some (.int (nI (i % 11))), some (.int (nI (i / 11))), some (.int (nI (((i % 11) - x) + (x - (i % 11))))), some (.int (nI (tr_rk a.2 (a.2 118 (22 + 11 * (i / 11) + (i % 11)))))), some (.int ((nI r) - (nI (((i % 11) - x) + (x - (i % 11))))))]) (st' := []) (I' := (I_X12_lays a.2 (i % 11) (i / 11) (a.2 118 (4 + (r - (((i % 11) - x) + (x - (i % 11)))))) w h)) (J' := J) rfl ?_
            refine EV_fg (lv' := [some (.ref 117), some (.int (nI x)), some (.int (nI y)), some (.int (nI t)), some (.int (nI r)), some (.int (a.1 + (r_X12_lays a.2 (i % 11) (i / 11) (a.2 118 (4 + (r - (((i % 11) - x) + (x - (i % 11)))))) w h))), some (.int ((nI i) + (nI 1))), none, none, none, none, none]) ⟨rfl, rfl, rfl, rfl, rfl, rfl, rfl, trivial⟩ ?_
            rw [show ((nI i) + (nI 1)) = (nI (i + 1)) from by simp (disch := omega) only [nI_add, tq_mul] <;> exact congrArg nI (by omega)]
            rw [tq_its, show (f_mra1 x y t r w h) i a = ((a.1 + (r_X12_lays a.2 (i % 11) (i / 11) (a.2 118 (4 + (r - (((i % 11) - x) + (x - (i % 11)))))) w h)), (I_X12_lays a.2 (i % 11) (i / 11) (a.2 118 (4 + (r - (((i % 11) - x) + (x - (i % 11)))))) w h)) from by simp only [f_mra1, if_neg h1, if_neg h2, if_neg h6, if_neg h7]] at kk
            have ihx := ih (i + 1) ((a.1 + (r_X12_lays a.2 (i % 11) (i / 11) (a.2 118 (4 + (r - (((i % 11) - x) + (x - (i % 11)))))) w h)), (I_X12_lays a.2 (i % 11) (i / 11) (a.2 118 (4 + (r - (((i % 11) - x) + (x - (i % 11)))))) w h)) (by omega)
            dsimp only at ihx
            exact ihx ⟨hI.1.lays, hI.2.1.lays hI.1, hI.2.2.lays hI.1 hq3⟩ kk
theorem fr_mra1 (x y t r : Nat) (w h : Nat) {cz : Nat} (hc : cz ≠ 118) (n i : Nat) (a : Int32 × tq_I) (jz : Nat) : (tq_it (f_mra1 x y t r w h) n i a).2 cz jz = a.2 cz jz := by
  have hc0 := hc
  refine tq_itF2 (fun i a j => ?_) n i a jz
  simp only [f_mra1]
  (repeat' split) <;> simp (disch := first | assumption | (simp only [ne_eq] at *; simp [*])) [tq_u, tq_cp, hc0, fr_X12_touches, fr_ta1, fr_X12_touchesAll, fr_cps1, fr_X12_copies, fr_sav, fr_bg1, fr_bg2, fr_X12_begins, fr_ly1, fr_X12_lays, fr_bgn1, fr_X12_begin, fr_X12_setCorner, fr_fi1, fr_X12_fill, fr_fg1, fr_X12_forgets, fr_rc1, fr_rc2, fr_X12_reaches, fr_mfl1, fr_X12_flood, fr_mrg1, fr_X12_regions]
theorem tr_ord.sav {I : tq_I} {s : Nat} (q : tr_ord I) : tr_ord (tr_sav I s) := q.cong (fun j h1 h2 => fs_sav (by omega))
theorem tr_ter.sav {I : tq_I} {s : Nat} (q : tr_ter I) : tr_ter (tr_sav I s) := q.cong (fun j h1 h2 => fs_sav (by omega))
def r_X12_raise (I : tq_I) (x y t : Int32) (w h s : Nat) : Int32 := (if (tq_b (tr_corner I x y)) = 0 then (-2) else (if (tq_b ((nI 0).toInt ≤ t.toInt ∧ t.toInt ≤ (nI 5).toInt)) = 0 then (-2) else (tq_it (f_mra1 (tq_N x) (tq_N y) (tq_N t) (tr_rk (tr_sav I s) (nI (tq_N t))) w h) 121 0 ((nI 0), (tr_sav I s))).1))
def I_X12_raise (I : tq_I) (x y t : Int32) (w h s : Nat) : tq_I := (if (tq_b (tr_corner I x y)) = 0 then I else (if (tq_b ((nI 0).toInt ≤ t.toInt ∧ t.toInt ≤ (nI 5).toInt)) = 0 then I else (tq_it (f_mra1 (tq_N x) (tq_N y) (tq_N t) (tr_rk (tr_sav I s) (nI (tq_N t))) w h) 121 0 ((nI 0), (tr_sav I s))).2))
set_option maxRecDepth 20000 in
theorem c_X12_raise (g : tq_G) (I : tq_I) (J : Int64) (x y t : Int32) (w h s : Nat) (k : tr_wh I w h) (hs : I 117 1 = nI s) (hs5 : s ≤ 5) (ho : tr_ord I) (hte : tr_ter I) : CT g mX12_raise 4 0 0 [.ref 117, .int x, .int y, .int t] (tq_SC ++ tq_SR) tq_RR I J (tq_ret (tq_SC ++ tq_SR) tq_RR (some (.int (r_X12_raise I x y t w h s))) (I_X12_raise I x y t w h s) J) := by
  refine CT.ret kX12_raise (Nat.le_of_ble_eq_true rfl) (fun x0 C hR hZ => ?_)
  refine EV_en (lv' := [some (.ref 117), some (.int x), some (.int y), some (.int t), none, none, none, none, none, none, none, none]) 8 rfl ?_
  refine EV_blk (own := 12) C rfl [(.aload_n 0, 0, 0, 0, 0), (.iload_n 1, 0, 0, 0, 0), (.iload_n 2, 0, 0, 0, 0)] (pc' := 3) (by decide +kernel) (lv' := [some (.ref 117), some (.int x), some (.int y), some (.int t), none, none, none, none, none, none, none, none]) (st' := [.int y, .int x, .ref 117]) (I' := I) (J' := J) rfl ?_
  refine EV_cV (own := 12) (idx := 87) (μ' := mX12_isCorner) (b := 117) (cb := 12) (av := [.int x, .int y]) (rest := []) C hR rfl (Or.inl ⟨1002, by decide⟩) kX12_isCorner sX12_isCorner (c_X12_isCorner g I J x y ) rfl rfl (by decide +kernel) rfl (by decide) (Nat.le_of_ble_eq_true rfl) rfl ⟨Nat.zero_le _, Nat.zero_le _⟩ ?_
  refine EV_if_eq (off := 10) (tgt := 16) C (by decide +kernel) (by decide) (fun h1 => ?_) (fun h1 => ?_)
  · skip
    refine EV_blk (own := 12) C rfl [(.bipush (-2), 0, 0, 0, (-2))] (pc' := 18) (by decide +kernel) (lv' := [some (.ref 117), some (.int x), some (.int y), some (.int t), none, none, none, none, none, none, none, none]) (st' := [.int (-2)]) (I' := I) (J' := J) rfl ?_
    exact EV_iret C hZ rfl (by decide +kernel) (Nat.le_refl _) (Nat.le_refl _) ⟨tq_some (by simp only [r_X12_raise, if_pos h1]), rfl, rfl, by simp only [I_X12_raise, if_pos h1], rfl⟩
  · skip
    have hc := tq_b10 h1
    have hxy := tr_corner.ix k hc
    have hw10 := k.2.2.2.1
    have hh10 := k.2.2.2.2.2
    refine EV_blk (own := 12) C rfl [(.iload_n 3, 0, 0, 0, 0)] (pc' := 10) (by decide +kernel) (lv' := [some (.ref 117), some (.int x), some (.int y), some (.int t), none, none, none, none, none, none, none, none]) (st' := [.int t]) (I' := I) (J' := J) rfl ?_
    refine EV_cS (own := 12) (idx := 80) (μ' := mX12_isTerrain) (av := [.int t]) (rest := []) C hR rfl (Or.inl ⟨983, by decide⟩) kX12_isTerrain sX12_isTerrain (c_X12_isTerrain g I J t ) (by decide +kernel) rfl (by decide) (Nat.le_of_ble_eq_true rfl) rfl ⟨Nat.zero_le _, Nat.zero_le _⟩ ?_
    refine EV_if_ne (off := 6) (tgt := 19) C (by decide +kernel) (by decide) (fun h2 => ?_) (fun h2 => ?_)
    · skip
      have ht := tq_t05 (tq_b10 h2)
      refine EV_lve (lv' := [some (.ref 117), some (.int (nI (tq_N x))), some (.int (nI (tq_N y))), some (.int (nI (tq_N t))), none, none, none, none, none, none, none, none]) (by rw [← tq_nIN hxy.1, ← tq_nIN hxy.2.1, ← tq_nIN ht.1]) ?_
      refine EV_blk (own := 12) C rfl [(.aload_n 0, 0, 0, 0, 0)] (pc' := 20) (by decide +kernel) (lv' := [some (.ref 117), some (.int (nI (tq_N x))), some (.int (nI (tq_N y))), some (.int (nI (tq_N t))), none, none, none, none, none, none, none, none]) (st' := [.ref 117]) (I' := I) (J' := J) rfl ?_
      refine EV_cV (own := 12) (idx := 84) (μ' := mX12_saves) (b := 117) (cb := 12) (av := []) (rest := []) C hR rfl (Or.inl ⟨986, by decide⟩) kX12_saves sX12_saves (c_saves g I J s hs hs5) rfl rfl (by decide +kernel) rfl (by decide) (Nat.le_of_ble_eq_true rfl) rfl ⟨Nat.zero_le _, Nat.zero_le _⟩ ?_
      refine EV_blk (own := 12) C rfl [(.aload_n 0, 0, 0, 0, 0), (.iload_n 3, 0, 0, 0, 0)] (pc' := 25) (by decide +kernel) (lv' := [some (.ref 117), some (.int (nI (tq_N x))), some (.int (nI (tq_N y))), some (.int (nI (tq_N t))), none, none, none, none, none, none, none, none]) (st' := [.int (nI (tq_N t)), .ref 117]) (I' := (tr_sav I s)) (J' := J) rfl ?_
      refine EV_cV (own := 12) (idx := 103) (μ' := mX12_rankOf) (b := 117) (cb := 12) (av := [.int (nI (tq_N t))]) (rest := []) C hR rfl (Or.inl ⟨1042, by decide⟩) kX12_rankOf sX12_rankOf (c_rankOf g (tr_sav I s) J (nI (tq_N t)) (ho.sav.1 (tq_N t) (by omega))) rfl rfl (by decide +kernel) rfl (by decide) (Nat.le_of_ble_eq_true rfl) rfl ⟨Nat.zero_le _, Nat.zero_le _⟩ ?_
      refine EV_blk (own := 12) C rfl [(.istore 4, 0, 0, 0, 0), (.iconst 0, 0, 0, 0, (nI 0)), (.istore 5, 0, 0, 0, 0), (.iconst 0, 0, 0, 0, (nI 0)), (.istore 6, 0, 0, 0, 0)] (pc' := 36) (by decide +kernel) (lv' := [some (.ref 117), some (.int (nI (tq_N x))), some (.int (nI (tq_N y))), some (.int (nI (tq_N t))), some (.int (nI (tr_rk (tr_sav I s) (nI (tq_N t))))), some (.int (nI 0)), some (.int (nI 0)), none, none, none, none, none]) (st' := []) (I' := (tr_sav I s)) (J' := J) rfl ?_
      have hlp := lp_mra1 (g := g) C hR J (tq_N x) (tq_N y) (tq_N t) (tr_rk (tr_sav I s) (nI (tq_N t))) w h (by omega) (by omega) (tr_rk5 _ _) 121 0 ((nI 0), (tr_sav I s))
      dsimp only at hlp
      refine hlp (by omega) ⟨k.sav, ho.sav, hte.sav⟩ ?_
      clear hlp
      refine EV_blk (own := 12) C rfl [(.iload 5, 0, 0, 0, 0)] (pc' := 184) (by decide +kernel) (lv' := [some (.ref 117), some (.int (nI (tq_N x))), some (.int (nI (tq_N y))), some (.int (nI (tq_N t))), some (.int (nI (tr_rk (tr_sav I s) (nI (tq_N t))))), some (.int ((tq_it (f_mra1 (tq_N x) (tq_N y) (tq_N t) (tr_rk (tr_sav I s) (nI (tq_N t))) w h) 121 0 ((nI 0), (tr_sav I s))).1)), some (.int (nI ((0 + 121)))), none, none, none, none, none]) (st' := [.int ((tq_it (f_mra1 (tq_N x) (tq_N y) (tq_N t) (tr_rk (tr_sav I s) (nI (tq_N t))) w h) 121 0 ((nI 0), (tr_sav I s))).1)]) (I' := (tq_it (f_mra1 (tq_N x) (tq_N y) (tq_N t) (tr_rk (tr_sav I s) (nI (tq_N t))) w h) 121 0 ((nI 0), (tr_sav I s))).2) (J' := J) rfl ?_
      exact EV_iret C hZ rfl (by decide +kernel) (Nat.le_refl _) (Nat.le_refl _) ⟨tq_some (by simp only [r_X12_raise, if_neg h1, if_neg h2]), rfl, rfl, by simp only [I_X12_raise, if_neg h1, if_neg h2], rfl⟩
    · skip
      refine EV_blk (own := 12) C rfl [(.bipush (-2), 0, 0, 0, (-2))] (pc' := 18) (by decide +kernel) (lv' := [some (.ref 117), some (.int x), some (.int y), some (.int t), none, none, none, none, none, none, none, none]) (st' := [.int (-2)]) (I' := I) (J' := J) rfl ?_
      exact EV_iret C hZ rfl (by decide +kernel) (Nat.le_refl _) (Nat.le_refl _) ⟨tq_some (by simp only [r_X12_raise, if_neg h1, if_pos h2]), rfl, rfl, by simp only [I_X12_raise, if_neg h1, if_pos h2], rfl⟩
theorem fr_X12_raise (I : tq_I) (x y t : Int32) (w h s : Nat) {cz : Nat} (hc : cz ≠ 117 ∧ cz ≠ 118) (jz : Nat) : I_X12_raise I x y t w h s cz jz = I cz jz := by
  obtain ⟨hc0, hc1⟩ := hc
  simp only [I_X12_raise]
  (repeat' split) <;> simp (disch := first | assumption | (simp only [ne_eq] at *; simp [*])) [tq_u, tq_cp, hc0, hc1, fr_X12_touches, fr_ta1, fr_X12_touchesAll, fr_cps1, fr_X12_copies, fr_sav, fr_bg1, fr_bg2, fr_X12_begins, fr_ly1, fr_X12_lays, fr_bgn1, fr_X12_begin, fr_X12_setCorner, fr_fi1, fr_X12_fill, fr_fg1, fr_X12_forgets, fr_rc1, fr_rc2, fr_X12_reaches, fr_mfl1, fr_X12_flood, fr_mrg1, fr_X12_regions, fr_mra1]
