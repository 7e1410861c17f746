section TQ9
variable {g : tq_G} {μ : tq_M} {x : tq_X} {k n pc : Nat} {lv : List (Option Value)} {st : List Value} {sh : List tq_S} {R : tq_R} {I : tq_I} {J : Int64}
theorem EV_put1 (C : tq_C g μ x) {own idx c j pl a : Nat} {v : Value} {R' : tq_R} {I' : tq_I} {J' : Int64} (hown : tq_cn own = μ.1.cls) (hf : (own, idx, c, j, pl) ∈ tq_fl ∨ ((own, idx, c, j, pl) ∈ tq_fn ∧ (tq_T c j).2.2.2 = false)) (hd : decode μ.2.1 pc = .ok (.putfield idx, 3)) (hs : sh[a]? = some (.inl c))
    (hfin : (tq_T c j).2.2.2 = false ∨ (μ.1.name = "<init>" ∧ (tq_T c j).1 = μ.1.cls)) (hnar : narrow (tq_ty c j) (tq_v g v) = tq_v g v) (hfit : fits (tq_ty c j) (tq_v g v) = true)
    (hv : tq_av R' I' J' (tq_ty c j) a j = v) (hoth : ∀ i, i < tq_nf c → i ≠ j → tq_av R' I' J' (tq_ty c i) a i = tq_av R I J (tq_ty c i) a i)
    (hk : ∀ (b : Nat) (u : tq_S) (H : Heap), b ≠ a → sh[b]? = some u → tq_at g R I J u b H → tq_at g R' I' J' u b H)
    (kk : EV g μ x k n (pc + 3) lv st sh R' I' J') : EV g μ x k n pc lv (v :: .ref a :: st) sh R I J := by
  intro H locs ls hJ hq hl
  have ha : a < 1000 := Nat.lt_of_lt_of_le ((List.getElem?_eq_some_iff.mp hs).1) hJ.2.1
  have hO : t_OB (tq_gs g + a) ((tq_gD g).1 c) (tq_nf c) ((tq_gD g).2 c) H (fun k => tq_fv g R I J (tq_ty c k) a k) := hJ.2.2.1 a _ hs
  have hc : j < tq_nf c ∧ c < 13 := by
    rcases hf with hf | hf
    · exact (tq_flin hf).2
    · exact tq_fnin hf.1
  obtain ⟨q, hcl, hN, hT⟩ := tq_cl_lt hc.2
  obtain ⟨cell, q1, q2, q3, q4⟩ := hO
  have hK := C.2.2.2.2.2.2.2.2.1
  have hts := C.2.2.2.2.2.2.2.1
  have hap := va_apart (own := μ.1.cls) hts (tq_lay hcl) (tq_ty c) (tq_tys_ok hcl) (tq_nms hcl) hK (show tq_cl[c]? = some (q.1, q.2.1, q.2.2) from hcl)
  obtain ⟨hS, hfc, kC, hkC, hkind⟩ := hK.1 c q hcl
  have hjN : j < q.2.2 := by rw [hN]; exact hc.1
  obtain ⟨cf, kf, fi, f, hi, hsl⟩ := hS j hjN
  have hst := (u_facts hfc hkC (u_lays hts (tq_lay hcl) hjN) hi).1
  have hlay := hts _ (tq_lay hcl _ (u_in_lay hjN))
  unfold u_lay at hlay
  have hty := tq_tys_ok hcl j hjN
  have fin : ∀ H' : Heap, H'[tq_gs g + a]? = some (cell.setSlot f.slot (tq_v g v)) → H'.size = H.size → (∀ q, q ≠ tq_gs g + a → H'[q]? = H[q]?) → tq_J g sh R' I' J' H' := by
    intro H' e1 e2 e3
    refine tq_J.set hJ hs e2 e3 ?_ (fun b u hb hu h => hk b u H hb hu h)
    rw [hsl] at e1
    have h2 := t_set (V := fun k => tq_fv g R I J (tq_ty c k) a k) (N := tq_nf c) q4 (by rw [← hN]; exact hap) hc.1 (tq_v g v)
    refine t_OB.to (V := updV (fun k => tq_fv g R I J (tq_ty c k) a k) j (tq_v g v)) ⟨_, e1, q2, q3, h2⟩ (fun i hiN => ?_)
    by_cases hij : i = j
    · subst hij
      simp only [updV, if_pos, tq_fv, hv]
    · simp only [updV, if_neg hij, tq_fv, hoth i hiN hij]
  by_cases hff : (q.2.1 j).2.2.2 = true
  · rw [if_pos hff] at hlay
    have hT' := hT j
    rcases hfin with h0 | ⟨h1, h2⟩
    · rw [hT', hff] at h0; cases h0
    rcases hf with hf | hf
    · have hcf : (tq_xm x).cls = cf := by
        obtain ⟨_, _, c', _, _, _, -, -, hf', -, -, -, hown2, -⟩ := Cond.laysFinal_spec hlay
        have e1 : c' = cf := by have := hi.symm.trans hf'; simp at this; exact this.1.symm
        rw [← hT', h2] at hown2
        rw [← e1]; exact Option.some.inj (C.2.2.2.2.2.2.1.symm.trans hown2)
      have h6 := u_fits hfc hkC hkind (Or.inr hlay) hi hty hnar hfit
      have hw := hts _ (tq_flin hf).1
      simp only [tq_fw, hT, hown] at hw
      refine W.putFinK C.1 C.2.1 C.2.2.2.2.2.2.1 hw hi hst hcf (C.2.2.2.2.2.1.trans h1) (a := tq_gs g + a) (v := tq_v g v) (by rw [q2]; exact h6) q1 q3 (by rw [hsl]; exact k2_hasslot (q4 j hc.1)) rfl (rest := st.map (tq_v g)) (by show (tq_v g v :: .ref (tq_ad g a) :: _) = _; rw [tq_ad_lt ha]) hd fun H' e1 e2 e3 => ?_
      exact kk H' _ ls (fin H' e1 e2 e3) (tq_locs hq) hl
    · rw [hT', hff] at hf; cases hf.2
  · rw [if_neg hff] at hlay
    have h6 := u_store hfc hkC hkind hlay hi hty hnar hfit
    rcases hf with hf | hf
    · have hw := hts _ (tq_flin hf).1
      simp only [tq_fw, hT, hown] at hw
      refine W.putK C.1 C.2.1 (f := f) ⟨C.2.2.2.2.2.2.1, hw, ⟨_, _, _, hi⟩, hst⟩ (a := tq_gs g + a) (v := tq_v g v) (by rw [q2]; exact h6) q1 q3 (by rw [hsl]; exact k2_hasslot (q4 j hc.1)) rfl (rest := st.map (tq_v g)) (by show (tq_v g v :: .ref (tq_ad g a) :: _) = _; rw [tq_ad_lt ha]) hd fun H' e1 e2 e3 => ?_
      exact kk H' _ ls (fin H' e1 e2 e3) (tq_locs hq) hl
    · have hw := va_Nw.use (A := tq_xa x) rfl (C.2.2.2.2.2.2.2.2.2.1 _ hf.1)
      simp only [tq_fnw, hT, hown] at hw
      refine va_WputK C.1 C.2.1 (f := f) C.2.2.2.2.2.2.1 hw hi hst (a := tq_gs g + a) (v := tq_v g v) (by rw [q2]; exact h6) q1 q3 (by rw [hsl]; exact k2_hasslot (q4 j hc.1)) rfl (rest := st.map (tq_v g)) (by show (tq_v g v :: .ref (tq_ad g a) :: _) = _; rw [tq_ad_lt ha]) hd fun H' e1 e2 e3 => ?_
      exact kk H' _ ls (fin H' e1 e2 e3) (tq_locs hq) hl
theorem tq_one12 : ∀ b, b ≠ 117 → (tq_SC ++ tq_SR)[b]? ≠ some (.inl 12) := by
  intro b hb
  by_cases h : b < 131
  · have : ∀ b, b < 131 → b ≠ 117 → (tq_SC ++ tq_SR)[b]? ≠ some (.inl 12) := by decide +kernel
    exact this b h hb
  · have e : (tq_SC ++ tq_SR)[b]? = none := List.getElem?_eq_none_iff.mpr (by have : (tq_SC ++ tq_SR).length = 131 := by decide +kernel
                                                                              omega)
    rw [e]; simp
def tq_s13 (o : Option tq_S) : Bool := match o with
  | some (Sum.inl c) => decide (c < 13)
  | _ => true
theorem tq_shp13 (b c : Nat) (h : (tq_SC ++ tq_SR)[b]? = some (.inl c)) : c < 13 := by
  have hb : b < 131 := by
    have := (List.getElem?_eq_some_iff.mp h).1
    have e : (tq_SC ++ tq_SR).length = 131 := by decide +kernel
    omega
  have key : ∀ b, b < 131 → tq_s13 ((tq_SC ++ tq_SR)[b]?) = true := by decide +kernel
  have := key b hb
  rw [h] at this
  exact of_decide_eq_true this
theorem tq_nolong (c i : Nat) (hc : c < 12) : tq_ty c i ≠ .long := by
  rcases (show c = 0 ∨ c = 1 ∨ c = 2 ∨ c = 3 ∨ c = 4 ∨ c = 5 ∨ c = 6 ∨ c = 7 ∨ c = 8 ∨ c = 9 ∨ c = 10 ∨ c = 11 by omega) with rfl | rfl | rfl | rfl | rfl | rfl | rfl | rfl | rfl | rfl | rfl | rfl <;> (unfold tq_ty; simp only [tyX0, tyX1, tyX2, tyX3, tyX4, tyX5, tyX6, tyX7, tyX8, tyX9, tyX10, tyX11]; (try split) <;> simp)
theorem EV_putl2 (C : tq_C g μ x) {own idx pl : Nat} {v : Int64} (hown : tq_cn own = μ.1.cls) (hf : (own, idx, 12, 25, pl) ∈ tq_fl) (hd : decode μ.2.1 pc = .ok (.putfield idx, 3))
    (kk : EV g μ x k n (pc + 3) lv st (tq_SC ++ tq_SR) R I v) : EV g μ x k n pc lv (.long v :: .ref 117 :: st) (tq_SC ++ tq_SR) R I J := by
  refine EV_put1 C hown (Or.inl hf) hd (c := 12) (a := 117) (j := 25) rfl (Or.inl rfl) (v := .long v) (R' := R) (I' := I) (J' := v) rfl rfl rfl ?_ ?_ kk
  · intro i hi hne
    have h26 : i < 26 := hi
    have : ∀ i, i < 26 → i ≠ 25 → tq_ty 12 i ≠ .long := by decide +kernel
    have := this i h26 hne
    unfold tq_av
    cases h : tq_ty 12 i <;> simp_all
  · intro b u H hb hu h
    refine tq_at.cong (fun j => rfl) (fun j => rfl) ?_ h
    intro c hc i hi
    subst hc
    have h13 := tq_shp13 b c hu
    have hne : c ≠ 12 := fun e => tq_one12 b hb (by rw [hu, e])
    exact absurd hi (tq_nolong c i (by omega))
end TQ9
set_option maxRecDepth 20000 in
theorem c_X12_note (g : tq_G) (I : tq_I) (J : Int64) (v : Int32)  : CT g mX12_note 0 0 0 [.ref 117, .int v] (tq_SC ++ tq_SR) tq_RR I J (tq_ret (tq_SC ++ tq_SR) tq_RR none I (((31 : Int64) * J) + (v).toInt64)) := by
  refine CT.ret kX12_note (Nat.le_of_ble_eq_true rfl) (fun x0 C hR hZ => ?_)
  refine EV_en (lv' := [some (.ref 117), some (.int v)]) 0 rfl ?_
  refine EV_blk (own := 12) C rfl [(.aload_n 0, 0, 0, 0, 0)] (pc' := 1) (by decide +kernel) (lv' := [some (.ref 117), some (.int v)]) (st' := [.ref 117]) (I' := I) (J' := J) rfl ?_
  refine EV_ldc2 (own := 12) (idx := 225) (v := 31) (pl := 1286) C rfl (by decide) (by decide +kernel) ?_
  refine EV_blk (own := 12) C rfl [(.aload_n 0, 0, 0, 0, 0), (.getfield 227, 12, 25, 924, 0), (.lmul, 0, 0, 0, 0), (.iload_n 1, 0, 0, 0, 0), (.i2l, 0, 0, 0, 0), (.ladd, 0, 0, 0, 0)] (pc' := 12) (by decide +kernel) (lv' := [some (.ref 117), some (.int v)]) (st' := [.long (((31 : Int64) * J) + (v).toInt64), .ref 117]) (I' := I) (J' := J) rfl ?_
  refine EV_putl2 (own := 12) (idx := 227) (pl := 924) C rfl (by decide) (by decide +kernel) ?_
  exact EV_vret C hZ rfl (by decide +kernel) (Nat.le_refl _) (Nat.le_refl _) ⟨rfl, rfl, rfl, rfl, rfl⟩
theorem fs_sav7 {I : tq_I} {s j : Nat} (hj : j ≠ 1) : tr_sav I s 117 j = I 117 j := by
  unfold tr_sav
  split <;> simp (disch := first | decide | exact hj) only [tq_cp_cell, tq_u_slot]
def tr_jx (j : Nat) : Prop := j ≠ 19 ∧ j ≠ 21 ∧ j ≠ 22 ∧ j ≠ 23 ∧ j ≠ 24
theorem fs_readsRow {I : tq_I} {L : Nat} (k : tr_tx I L) (k2 : tr_rs I) {j : Nat} (hj : tr_jx j) : I_X12_readsRow I L 117 j = I 117 j := by
  obtain ⟨h1, h2, h3, h4, h5⟩ := hj
  have e : (tr_rwS I L).2 117 j = I 117 j := (tr_rwP k k2).2.2.1 j h1 h4
  unfold I_X12_readsRow
  (repeat' split) <;> simp (disch := assumption) only [tq_u_slot, fs_here, e]
theorem fs_raE {I : tq_I} {L : Nat} (k : tr_rdy I L) {j : Nat} (hj : tr_jx j) : (tr_raE I L).2 117 j = I 117 j := by
  unfold tr_raE
  refine (tq_whP (fun (b : Int32 × tq_I) => tr_raI L b ∧ b.2 117 j = I 117 j) (fun i a b ha h => ?_) 11 0 (nI 1, tr_raA I) ⟨tr_raA0 k, ?_⟩).2
  · unfold f_mra2 at h
    split at h
    · cases h
    · rename_i hon
      rw [← Option.some.inj h]
      refine ⟨tr_raS ha.1 hon, ?_⟩
      dsimp only
      rw [fs_readsRow ha.1.1 (ha.1.2.2.2.1 hon).1 hj]
      exact ha.2
  · dsimp only
    unfold tr_raA
    rw [tq_u_slot hj.2.2.2.2, tq_u_slot hj.2.2.1, tq_u_slot hj.1]
theorem fs_readsAll {I : tq_I} {L : Nat} (k : tr_rdy I L) {j : Nat} (hj : tr_jx j) : I_X12_readsAll I L 117 j = I 117 j := by
  unfold I_X12_readsAll
  exact fs_raE k hj
/-- when there is no fault -/
theorem tr_fine {I : tq_I} {L : Nat} (k : tr_rdy I L) (h : ¬ r_X12_readsAll I L = 0) : (2 ≤ (I_X12_readsAll I L 117 21).toInt ∧ (I_X12_readsAll I L 117 21).toInt ≤ 11) ∧ 2 ≤ (I_X12_readsAll I L 117 22).toInt ∧ (I_X12_readsAll I L 117 22).toInt ≤ 11 := by
  have hE := tr_raEP k
  have h0 := tr_raE0 k
  unfold r_X12_readsAll at h
  unfold I_X12_readsAll
  generalize tr_raE I L = E at hE h0 h
  have := hE.2.2.2.2 h0 (hE.2.1.resolve_left h)
  have h3 := hE.2.2.1
  exact ⟨⟨this.1, h3.2⟩, this.2⟩
theorem tr_fineN {I : tq_I} {L : Nat} (k : tr_rdy I L) (h : ¬ r_X12_readsAll I L = 0) : I_X12_readsAll I L 117 21 - nI 1 = nI (tq_N (I_X12_readsAll I L 117 21) - 1) ∧ I_X12_readsAll I L 117 22 - nI 1 = nI (tq_N (I_X12_readsAll I L 117 22) - 1) ∧ (1 ≤ tq_N (I_X12_readsAll I L 117 21) - 1 ∧ tq_N (I_X12_readsAll I L 117 21) - 1 ≤ 10) ∧ 1 ≤ tq_N (I_X12_readsAll I L 117 22) - 1 ∧ tq_N (I_X12_readsAll I L 117 22) - 1 ≤ 10 := by
  have hf := tr_fine k h
  have e1 := tq_nIN (show 0 ≤ (I_X12_readsAll I L 117 21).toInt by omega)
  have e2 := tq_nIN (show 0 ≤ (I_X12_readsAll I L 117 22).toInt by omega)
  have b1 : 2 ≤ tq_N (I_X12_readsAll I L 117 21) ∧ tq_N (I_X12_readsAll I L 117 21) ≤ 11 := by unfold tq_N; omega
  have b2 : 2 ≤ tq_N (I_X12_readsAll I L 117 22) ∧ tq_N (I_X12_readsAll I L 117 22) ≤ 11 := by unfold tq_N; omega
  refine ⟨?_, ?_, by omega, by omega⟩
  · conv => lhs; rw [e1]
    exact tq_sub_nI (by omega)
  · conv => lhs; rw [e2]
    exact tq_sub_nI (by omega)
def f_mld1  (i : Nat) (a : tq_I) : tq_I := (if (tq_b (tr_corner a (nI (i % 11)) (nI (i / 11)))) = 0 then (tq_u a 118 (22 + i) (nI 0)) else (tq_u a 118 (22 + i) (a 130 i)))
set_option maxRecDepth 20000 in
theorem lp_mld1 {g : tq_G} {x0 : tq_X} (C : tq_C g mX12_load x0) (hR : tq_ht x0 5 0 0) (J : Int64)   : ∀ (n i : Nat) (a : tq_I), i + n = 121 → EV g mX12_load x0 0 0 78 [some (.ref 117), some (.int (nI (i + n)))] [] (tq_SC ++ tq_SR) tq_RR (tq_it (f_mld1) n i a) J → EV g mX12_load x0 0 0 32 [some (.ref 117), some (.int (nI i))] [] (tq_SC ++ tq_SR) tq_RR a J := by
  intro n
  induction n with
  | zero =>
    intro i a hi kk
    rw [Nat.add_zero] at kk
    refine EV_blk (own := 12) C rfl [(.iload_n 1, 0, 0, 0, 0), (.bipush 121, 0, 0, 0, (nI 121))] (pc' := 35) (by decide +kernel) (lv' := [some (.ref 117), some (.int (nI i))]) (st' := [.int (nI 121), .int (nI i)]) (I' := a) (J' := J) rfl ?_
    refine EV_icmp_ge (off := 43) (tgt := 78) C (by decide +kernel) (by decide) (fun h1 => ?_) (fun h1 => ?_)
    · skip
      exact kk
    · skip
      exact absurd h1 (by simp (disch := omega) only [Int32.lt_iff_toInt_lt, Int32.le_iff_toInt_le, Int32.toInt_zero, nI_toInt, tq_m1]; omega)
  | succ n ih =>
    intro i a hi kk
    rw [show i + (n + 1) = (i + 1) + n by omega] at kk
    refine EV_blk (own := 12) C rfl [(.iload_n 1, 0, 0, 0, 0), (.bipush 121, 0, 0, 0, (nI 121))] (pc' := 35) (by decide +kernel) (lv' := [some (.ref 117), some (.int (nI i))]) (st' := [.int (nI 121), .int (nI i)]) (I' := a) (J' := J) rfl ?_
    refine EV_icmp_ge (off := 43) (tgt := 78) C (by decide +kernel) (by decide) (fun h1 => ?_) (fun h1 => ?_)
    · skip
      exact absurd h1 (by simp (disch := omega) only [Int32.lt_iff_toInt_lt, Int32.le_iff_toInt_le, Int32.toInt_zero, nI_toInt, tq_m1]; omega)
    · skip
      refine EV_blk (own := 12) C rfl [(.aload_n 0, 0, 0, 0, 0), (.getfield 7, 12, 0, 899, 0), (.bipush 22, 0, 0, 0, (nI 22)), (.iload_n 1, 0, 0, 0, 0), (.iadd, 0, 0, 0, 0), (.aload_n 0, 0, 0, 0, 0), (.iload_n 1, 0, 0, 0, 0), (.bipush 11, 0, 0, 0, (nI 11))] (pc' := 50) (by decide +kernel) (lv' := [some (.ref 117), some (.int (nI i))]) (st' := [.int (nI 11), .int (nI i), .ref 117, .int ((nI 22) + (nI i)), .ref 118]) (I' := a) (J' := J) rfl ?_
      refine EV_irem C (by decide +kernel) (by decide) ?_
      refine EV_blk (own := 12) C rfl [(.iload_n 1, 0, 0, 0, 0), (.bipush 11, 0, 0, 0, (nI 11))] (pc' := 54) (by decide +kernel) (lv' := [some (.ref 117), some (.int (nI i))]) (st' := [.int (nI 11), .int (nI i), .int (tq_rem (nI i) (nI 11)), .ref 117, .int ((nI 22) + (nI i)), .ref 118]) (I' := a) (J' := J) rfl ?_
      refine EV_idiv C (by decide +kernel) (by decide) ?_
      rw [show ((nI i) / (nI 11)) = (nI (i / 11)) from by simp (disch := omega) only [nI_add, tq_mul, tq_rem_nI, tq_div_nI, tq_sub_nI]]
      rw [show (tq_rem (nI i) (nI 11)) = (nI (i % 11)) from by simp (disch := omega) only [nI_add, tq_mul, tq_rem_nI, tq_div_nI, tq_sub_nI]]
      refine EV_cV (own := 12) (idx := 87) (μ' := mX12_isCorner) (b := 117) (cb := 12) (av := [.int (nI (i % 11)), .int (nI (i / 11))]) (rest := [.int ((nI 22) + (nI i)), .ref 118]) C hR rfl (Or.inl ⟨1002, by decide⟩) kX12_isCorner sX12_isCorner (c_X12_isCorner g a J (nI (i % 11)) (nI (i / 11)) ) rfl rfl (by decide +kernel) rfl (by decide) (Nat.le_of_ble_eq_true rfl) rfl ⟨Nat.zero_le _, Nat.zero_le _⟩ ?_
      refine EV_if_eq (off := 12) (tgt := 70) C (by decide +kernel) (by decide) (fun h2 => ?_) (fun h2 => ?_)
      · skip
        refine EV_blk (own := 12) C rfl [(.iconst 0, 0, 0, 0, (nI 0))] (pc' := 71) (by decide +kernel) (lv' := [some (.ref 117), some (.int (nI i))]) (st' := [.int (nI 0), .int ((nI 22) + (nI i)), .ref 118]) (I' := a) (J' := J) rfl ?_
        refine EV_iast (j := (22 + i)) C (by decide +kernel) rfl (tq_toI (22 + i) (by simp (disch := omega) only [nI_add, tq_mul, tq_rem_nI, tq_div_nI, tq_sub_nI]) (by omega)) (by omega) ?_
        refine EV_blk (own := 12) C rfl [(.iinc 1 1, 0, 0, 0, (nI 1)), (.goto (-43), 0, 0, 0, 0)] (pc' := 32) (by decide +kernel) (lv' := [some (.ref 117), some (.int ((nI i) + (nI 1)))]) (st' := []) (I' := (tq_u a 118 (22 + i) (nI 0))) (J' := J) rfl ?_
        rw [show ((nI i) + (nI 1)) = (nI (i + 1)) from by simp (disch := omega) only [nI_add, tq_mul] <;> exact congrArg nI (by omega)]
        rw [tq_its, show (f_mld1) i a = (tq_u a 118 (22 + i) (nI 0)) from by simp only [f_mld1, if_neg h1, if_pos h2]] at kk
        exact ih (i + 1) (tq_u a 118 (22 + i) (nI 0)) (by omega) kk
      · skip
        refine EV_blk (own := 12) C rfl [(.aload_n 0, 0, 0, 0, 0), (.getfield 47, 12, 20, 919, 0), (.iload_n 1, 0, 0, 0, 0)] (pc' := 66) (by decide +kernel) (lv' := [some (.ref 117), some (.int (nI i))]) (st' := [.int (nI i), .ref 130, .int ((nI 22) + (nI i)), .ref 118]) (I' := a) (J' := J) rfl ?_
        refine EV_iald (j := i) C (by decide +kernel) rfl (nI_toInt (by omega)) (by omega) ?_
        refine EV_blk (own := 12) C rfl [(.goto 4, 0, 0, 0, 0)] (pc' := 71) (by decide +kernel) (lv' := [some (.ref 117), some (.int (nI i))]) (st' := [.int (a 130 i), .int ((nI 22) + (nI i)), .ref 118]) (I' := a) (J' := J) rfl ?_
        refine EV_iast (j := (22 + i)) C (by decide +kernel) rfl (tq_toI (22 + i) (by simp (disch := omega) only [nI_add, tq_mul, tq_rem_nI, tq_div_nI, tq_sub_nI]) (by omega)) (by omega) ?_
        refine EV_blk (own := 12) C rfl [(.iinc 1 1, 0, 0, 0, (nI 1)), (.goto (-43), 0, 0, 0, 0)] (pc' := 32) (by decide +kernel) (lv' := [some (.ref 117), some (.int ((nI i) + (nI 1)))]) (st' := []) (I' := (tq_u a 118 (22 + i) (a 130 i))) (J' := J) rfl ?_
        rw [show ((nI i) + (nI 1)) = (nI (i + 1)) from by simp (disch := omega) only [nI_add, tq_mul] <;> exact congrArg nI (by omega)]
        rw [tq_its, show (f_mld1) i a = (tq_u a 118 (22 + i) (a 130 i)) from by simp only [f_mld1, if_neg h1, if_neg h2]] at kk
        exact ih (i + 1) (tq_u a 118 (22 + i) (a 130 i)) (by omega) kk
theorem fr_mld1  {cz : Nat} (hc : cz ≠ 118) (n i : Nat) (a : tq_I) (jz : Nat) : (tq_it (f_mld1) n i a) cz jz = a cz jz := by
  have hc0 := hc
  refine tq_itF (fun i a j => ?_) n i a jz
  simp only [f_mld1]
  (repeat' split) <;> simp (disch := first | assumption | (simp only [ne_eq] at *; simp [*])) [tq_u, tq_cp, hc0, fr_X12_touches, fr_ta1, fr_X12_touchesAll, fr_cps1, fr_X12_copies, fr_sav, fr_bg1, fr_bg2, fr_X12_begins, fr_ly1, fr_X12_lays, fr_bgn1, fr_X12_begin, fr_X12_setCorner, fr_fi1, fr_X12_fill, fr_fg1, fr_X12_forgets, fr_rc1, fr_rc2, fr_X12_reaches, fr_mfl1, fr_X12_flood, fr_mrg1, fr_X12_regions, fr_mra1, fr_X12_raise, fr_sp1, fr_X12_setPath, fr_sr1, fr_sr2, fr_X12_setRank, fr_X12_becomes, fr_X12_setTiles, fr_X12_setVariants, fr_X12_setSeed, fr_X12_setBorder, fr_X12_makesUp, fr_X12_finds, fr_X12_parts, fr_put, fr_mfy2, fr_X12_findsLayers, fr_mfp1, fr_mfp2, fr_X12_findsPieces, fr_X12_layers, fr_X12_layer, fr_X12_pieces, fr_X12_piece, fr_X12_isStaleAt, fr_mpa1, fr_X12_paints, fr_X12_isStale, fr_mst2, fr_X12_stale, fr_mpt1, fr_X12_paint, fr_X12_paintCell, fr_mfk2, fr_mfk3, fr_X12_findsKinds, fr_X12_kinds, fr_X12_kind, fr_X12_undo, fr_X12_here, fr_X12_type, fr_X12_clearText, fr_X12_number, fr_mri1, fr_X12_readsItem, fr_rwS, fr_X12_readsRow, fr_raE, fr_X12_readsAll, fr_X12_textFault]
def r_X12_load (I : tq_I) (L s : Nat) : Int32 := (if (r_X12_readsAll I L) = 0 then (-4) else (((tq_it (f_mld1) 121 0 (I_X12_begins (tr_sav (I_X12_readsAll I L) s) (tq_N ((I_X12_readsAll I L) 117 21) - 1) (tq_N ((I_X12_readsAll I L) 117 22) - 1))) 118 0) * ((tq_it (f_mld1) 121 0 (I_X12_begins (tr_sav (I_X12_readsAll I L) s) (tq_N ((I_X12_readsAll I L) 117 21) - 1) (tq_N ((I_X12_readsAll I L) 117 22) - 1))) 118 1)))
def I_X12_load (I : tq_I) (L s : Nat) : tq_I := (if (r_X12_readsAll I L) = 0 then (I_X12_readsAll I L) else (tq_it (f_mld1) 121 0 (I_X12_begins (tr_sav (I_X12_readsAll I L) s) (tq_N ((I_X12_readsAll I L) 117 21) - 1) (tq_N ((I_X12_readsAll I L) 117 22) - 1))))
set_option maxRecDepth 20000 in
theorem c_X12_load (g : tq_G) (I : tq_I) (J : Int64) (L s : Nat) (k : tr_rdy I L) (hs : I 117 1 = nI s) (hs5 : s ≤ 5) : CT g mX12_load 5 0 0 [.ref 117] (tq_SC ++ tq_SR) tq_RR I J (tq_ret (tq_SC ++ tq_SR) tq_RR (some (.int (r_X12_load I L s))) (I_X12_load I L s) J) := by
  refine CT.ret kX12_load (Nat.le_of_ble_eq_true rfl) (fun x0 C hR hZ => ?_)
  refine EV_en (lv' := [some (.ref 117), none]) 1 rfl ?_
  refine EV_blk (own := 12) C rfl [(.aload_n 0, 0, 0, 0, 0)] (pc' := 1) (by decide +kernel) (lv' := [some (.ref 117), none]) (st' := [.ref 117]) (I' := I) (J' := J) rfl ?_
  refine EV_cV (own := 12) (idx := 212) (μ' := mX12_readsAll) (b := 117) (cb := 12) (av := []) (rest := []) C hR rfl (Or.inl ⟨1237, by decide⟩) kX12_readsAll sX12_readsAll (c_X12_readsAll g I J L k) rfl rfl (by decide +kernel) rfl (by decide) (Nat.le_of_ble_eq_true rfl) rfl ⟨Nat.zero_le _, Nat.zero_le _⟩ ?_
  refine EV_if_ne (off := 6) (tgt := 10) C (by decide +kernel) (by decide) (fun hfine => ?_) (fun hfine => ?_)
  · skip
    refine EV_blk (own := 12) C rfl [(.aload_n 0, 0, 0, 0, 0)] (pc' := 11) (by decide +kernel) (lv' := [some (.ref 117), none]) (st' := [.ref 117]) (I' := (I_X12_readsAll I L)) (J' := J) rfl ?_
    refine EV_cV (own := 12) (idx := 84) (μ' := mX12_saves) (b := 117) (cb := 12) (av := []) (rest := []) C hR rfl (Or.inl ⟨986, by decide⟩) kX12_saves sX12_saves (c_saves g (I_X12_readsAll I L) J s ((fs_readsAll k ⟨by decide, by decide, by decide, by decide, by decide⟩).trans hs) hs5) rfl rfl (by decide +kernel) rfl (by decide) (Nat.le_of_ble_eq_true rfl) rfl ⟨Nat.zero_le _, Nat.zero_le _⟩ ?_
    refine EV_blk (own := 12) C rfl [(.aload_n 0, 0, 0, 0, 0), (.aload_n 0, 0, 0, 0, 0), (.getfield 195, 12, 21, 920, 0), (.iconst 1, 0, 0, 0, (nI 1)), (.isub, 0, 0, 0, 0), (.aload_n 0, 0, 0, 0, 0), (.getfield 192, 12, 22, 921, 0), (.iconst 1, 0, 0, 0, (nI 1)), (.isub, 0, 0, 0, 0)] (pc' := 27) (by decide +kernel) (lv' := [some (.ref 117), none]) (st' := [.int (((tr_sav (I_X12_readsAll I L) s) 117 22) - (nI 1)), .int (((tr_sav (I_X12_readsAll I L) s) 117 21) - (nI 1)), .ref 117]) (I' := (tr_sav (I_X12_readsAll I L) s)) (J' := J) rfl ?_
    have hfn := tr_fineN k hfine
    refine EV_ste (st' := [.int (nI (tq_N ((I_X12_readsAll I L) 117 22) - 1)), .int (nI (tq_N ((I_X12_readsAll I L) 117 21) - 1)), .ref 117]) (by rw [fs_sav7 (by decide), fs_sav7 (by decide), hfn.1, hfn.2.1]) ?_
    refine EV_cV (own := 12) (idx := 51) (μ' := mX12_begins) (b := 117) (cb := 12) (av := [.int (nI (tq_N ((I_X12_readsAll I L) 117 21) - 1)), .int (nI (tq_N ((I_X12_readsAll I L) 117 22) - 1))]) (rest := []) C hR rfl (Or.inl ⟨880, by decide⟩) kX12_begins sX12_begins (c_X12_begins g (tr_sav (I_X12_readsAll I L) s) J (tq_N ((I_X12_readsAll I L) 117 21) - 1) (tq_N ((I_X12_readsAll I L) 117 22) - 1) (by omega) (by omega)) rfl rfl (by decide +kernel) rfl (by decide) (Nat.le_of_ble_eq_true rfl) rfl ⟨Nat.zero_le _, Nat.zero_le _⟩ ?_
    refine EV_blk (own := 12) C rfl [(.iconst 0, 0, 0, 0, (nI 0)), (.istore_n 1, 0, 0, 0, 0)] (pc' := 32) (by decide +kernel) (lv' := [some (.ref 117), some (.int (nI 0))]) (st' := []) (I' := (I_X12_begins (tr_sav (I_X12_readsAll I L) s) (tq_N ((I_X12_readsAll I L) 117 21) - 1) (tq_N ((I_X12_readsAll I L) 117 22) - 1))) (J' := J) rfl ?_
    refine lp_mld1 C hR J  121 0 (I_X12_begins (tr_sav (I_X12_readsAll I L) s) (tq_N ((I_X12_readsAll I L) 117 21) - 1) (tq_N ((I_X12_readsAll I L) 117 22) - 1)) (by omega) ?_
    refine EV_blk (own := 12) C rfl [(.aload_n 0, 0, 0, 0, 0), (.getfield 7, 12, 0, 899, 0), (.iconst 0, 0, 0, 0, (nI 0))] (pc' := 83) (by decide +kernel) (lv' := [some (.ref 117), some (.int (nI ((0 + 121))))]) (st' := [.int (nI 0), .ref 118]) (I' := (tq_it (f_mld1) 121 0 (I_X12_begins (tr_sav (I_X12_readsAll I L) s) (tq_N ((I_X12_readsAll I L) 117 21) - 1) (tq_N ((I_X12_readsAll I L) 117 22) - 1)))) (J' := J) rfl ?_
    refine EV_iald (j := 0) C (by decide +kernel) rfl (nI_toInt (by omega)) (by omega) ?_
    refine EV_blk (own := 12) C rfl [(.aload_n 0, 0, 0, 0, 0), (.getfield 7, 12, 0, 899, 0), (.iconst 1, 0, 0, 0, (nI 1))] (pc' := 89) (by decide +kernel) (lv' := [some (.ref 117), some (.int (nI ((0 + 121))))]) (st' := [.int (nI 1), .ref 118, .int ((tq_it (f_mld1) 121 0 (I_X12_begins (tr_sav (I_X12_readsAll I L) s) (tq_N ((I_X12_readsAll I L) 117 21) - 1) (tq_N ((I_X12_readsAll I L) 117 22) - 1))) 118 0)]) (I' := (tq_it (f_mld1) 121 0 (I_X12_begins (tr_sav (I_X12_readsAll I L) s) (tq_N ((I_X12_readsAll I L) 117 21) - 1) (tq_N ((I_X12_readsAll I L) 117 22) - 1)))) (J' := J) rfl ?_
    refine EV_iald (j := 1) C (by decide +kernel) rfl (nI_toInt (by omega)) (by omega) ?_
    refine EV_blk (own := 12) C rfl [(.imul, 0, 0, 0, 0)] (pc' := 91) (by decide +kernel) (lv' := [some (.ref 117), some (.int (nI ((0 + 121))))]) (st' := [.int (((tq_it (f_mld1) 121 0 (I_X12_begins (tr_sav (I_X12_readsAll I L) s) (tq_N ((I_X12_readsAll I L) 117 21) - 1) (tq_N ((I_X12_readsAll I L) 117 22) - 1))) 118 0) * ((tq_it (f_mld1) 121 0 (I_X12_begins (tr_sav (I_X12_readsAll I L) s) (tq_N ((I_X12_readsAll I L) 117 21) - 1) (tq_N ((I_X12_readsAll I L) 117 22) - 1))) 118 1))]) (I' := (tq_it (f_mld1) 121 0 (I_X12_begins (tr_sav (I_X12_readsAll I L) s) (tq_N ((I_X12_readsAll I L) 117 21) - 1) (tq_N ((I_X12_readsAll I L) 117 22) - 1)))) (J' := J) rfl ?_
    exact EV_iret C hZ rfl (by decide +kernel) (Nat.le_refl _) (Nat.le_refl _) ⟨tq_some (by simp only [r_X12_load, if_neg hfine]), rfl, rfl, by simp only [I_X12_load, if_neg hfine], rfl⟩
  · skip
    refine EV_blk (own := 12) C rfl [(.bipush (-4), 0, 0, 0, (-4))] (pc' := 9) (by decide +kernel) (lv' := [some (.ref 117), none]) (st' := [.int (-4)]) (I' := (I_X12_readsAll I L)) (J' := J) rfl ?_
    exact EV_iret C hZ rfl (by decide +kernel) (Nat.le_refl _) (Nat.le_refl _) ⟨tq_some (by simp only [r_X12_load, if_pos hfine]), rfl, rfl, by simp only [I_X12_load, if_pos hfine], rfl⟩
theorem fr_X12_load (I : tq_I) (L s : Nat) {cz : Nat} (hc : cz ≠ 117 ∧ cz ≠ 118 ∧ cz ≠ 130) (jz : Nat) : I_X12_load I L s cz jz = I cz jz := by
  obtain ⟨hc0, hc1, hc2⟩ := hc
  simp only [I_X12_load]
  (repeat' split) <;> simp (disch := first | assumption | (simp only [ne_eq] at *; simp [*])) [tq_u, tq_cp, hc0, hc1, hc2, fr_X12_touches, fr_ta1, fr_X12_touchesAll, fr_cps1, fr_X12_copies, fr_sav, fr_bg1, fr_bg2, fr_X12_begins, fr_ly1, fr_X12_lays, fr_bgn1, fr_X12_begin, fr_X12_setCorner, fr_fi1, fr_X12_fill, fr_fg1, fr_X12_forgets, fr_rc1, fr_rc2, fr_X12_reaches, fr_mfl1, fr_X12_flood, fr_mrg1, fr_X12_regions, fr_mra1, fr_X12_raise, fr_sp1, fr_X12_setPath, fr_sr1, fr_sr2, fr_X12_setRank, fr_X12_becomes, fr_X12_setTiles, fr_X12_setVariants, fr_X12_setSeed, fr_X12_setBorder, fr_X12_makesUp, fr_X12_finds, fr_X12_parts, fr_put, fr_mfy2, fr_X12_findsLayers, fr_mfp1, fr_mfp2, fr_X12_findsPieces, fr_X12_layers, fr_X12_layer, fr_X12_pieces, fr_X12_piece, fr_X12_isStaleAt, fr_mpa1, fr_X12_paints, fr_X12_isStale, fr_mst2, fr_X12_stale, fr_mpt1, fr_X12_paint, fr_X12_paintCell, fr_mfk2, fr_mfk3, fr_X12_findsKinds, fr_X12_kinds, fr_X12_kind, fr_X12_undo, fr_X12_here, fr_X12_type, fr_X12_clearText, fr_X12_number, fr_mri1, fr_X12_readsItem, fr_rwS, fr_X12_readsRow, fr_raE, fr_X12_readsAll, fr_X12_textFault, fr_mld1]
def I_X12_puts (I : tq_I) (v : Int32) : tq_I := (tq_u (tq_u I 120 (tq_N (I 117 5)) v) 117 5 (((tq_u I 120 (tq_N (I 117 5)) v) 117 5) + (nI 1)))
set_option maxRecDepth 20000 in
theorem c_X12_puts (g : tq_G) (I : tq_I) (J : Int64) (v : Int32) (h0 : 0 ≤ (I 117 5).toInt) (h1 : (I 117 5).toInt < 150) : CT g mX12_puts 0 0 0 [.ref 117, .int v] (tq_SC ++ tq_SR) tq_RR I J (tq_ret (tq_SC ++ tq_SR) tq_RR none (I_X12_puts I v) J) := by
  refine CT.ret kX12_puts (Nat.le_of_ble_eq_true rfl) (fun x0 C hR hZ => ?_)
  refine EV_en (lv' := [some (.ref 117), some (.int v)]) 0 rfl ?_
  refine EV_blk (own := 12) C rfl [(.aload_n 0, 0, 0, 0, 0), (.getfield 16, 12, 4, 903, 0), (.aload_n 0, 0, 0, 0, 0), (.getfield 215, 12, 5, 904, 0), (.iload_n 1, 0, 0, 0, 0)] (pc' := 9) (by decide +kernel) (lv' := [some (.ref 117), some (.int v)]) (st' := [.int v, .int (I 117 5), .ref 120]) (I' := I) (J' := J) rfl ?_
  refine EV_iast (j := (tq_N (I 117 5))) C (by decide +kernel) rfl (tq_NI h0) (tq_Nlt h0 (by omega)) ?_
  refine EV_blk (own := 12) C rfl [(.aload_n 0, 0, 0, 0, 0), (.dup, 0, 0, 0, 0), (.getfield 215, 12, 5, 904, 0), (.iconst 1, 0, 0, 0, (nI 1)), (.iadd, 0, 0, 0, 0), (.putfield 215, 12, 5, 904, 0)] (pc' := 20) (by decide +kernel) (lv' := [some (.ref 117), some (.int v)]) (st' := []) (I' := (tq_u (tq_u I 120 (tq_N (I 117 5)) v) 117 5 (((tq_u I 120 (tq_N (I 117 5)) v) 117 5) + (nI 1)))) (J' := J) rfl ?_
  exact EV_vret C hZ rfl (by decide +kernel) (Nat.le_refl _) (Nat.le_refl _) ⟨rfl, rfl, rfl, by simp only [I_X12_puts], rfl⟩
theorem fr_X12_puts (I : tq_I) (v : Int32) {cz : Nat} (hc : cz ≠ 117 ∧ cz ≠ 120) (jz : Nat) : I_X12_puts I v cz jz = I cz jz := by
  obtain ⟨hc0, hc1⟩ := hc
  simp only [I_X12_puts]
  (repeat' split) <;> simp (disch := first | assumption | (simp only [ne_eq] at *; simp [*])) [tq_u, tq_cp, hc0, hc1, fr_X12_touches, fr_ta1, fr_X12_touchesAll, fr_cps1, fr_X12_copies, fr_sav, fr_bg1, fr_bg2, fr_X12_begins, fr_ly1, fr_X12_lays, fr_bgn1, fr_X12_begin, fr_X12_setCorner, fr_fi1, fr_X12_fill, fr_fg1, fr_X12_forgets, fr_rc1, fr_rc2, fr_X12_reaches, fr_mfl1, fr_X12_flood, fr_mrg1, fr_X12_regions, fr_mra1, fr_X12_raise, fr_sp1, fr_X12_setPath, fr_sr1, fr_sr2, fr_X12_setRank, fr_X12_becomes, fr_X12_setTiles, fr_X12_setVariants, fr_X12_setSeed, fr_X12_setBorder, fr_X12_makesUp, fr_X12_finds, fr_X12_parts, fr_put, fr_mfy2, fr_X12_findsLayers, fr_mfp1, fr_mfp2, fr_X12_findsPieces, fr_X12_layers, fr_X12_layer, fr_X12_pieces, fr_X12_piece, fr_X12_isStaleAt, fr_mpa1, fr_X12_paints, fr_X12_isStale, fr_mst2, fr_X12_stale, fr_mpt1, fr_X12_paint, fr_X12_paintCell, fr_mfk2, fr_mfk3, fr_X12_findsKinds, fr_X12_kinds, fr_X12_kind, fr_X12_undo, fr_X12_here, fr_X12_type, fr_X12_clearText, fr_X12_number, fr_mri1, fr_X12_readsItem, fr_rwS, fr_X12_readsRow, fr_raE, fr_X12_readsAll, fr_X12_textFault, fr_mld1, fr_X12_load]
def tr_out (I : tq_I) (m : Nat) : Prop := 0 ≤ (I 117 5).toInt ∧ (I 117 5).toInt ≤ (m : Int)
theorem tr_out.puts {I : tq_I} {m : Nat} {v : Int32} (k : tr_out I m) (hm : m < 1000) : tr_out (I_X12_puts I v) (m + 1) := by
  have e : I_X12_puts I v 117 5 = I 117 5 + nI 1 := by
    unfold I_X12_puts
    rw [tq_u_same, tq_u_cell (by decide)]
  unfold tr_out
  rw [e]
  exact tr_pinc k hm
theorem fs_puts {I : tq_I} {v : Int32} {j : Nat} (hj : j ≠ 5) : I_X12_puts I v 117 j = I 117 j := by
  unfold I_X12_puts
  rw [tq_u_slot hj, tq_u_cell (by decide)]
def I_X12_writesItem (I : tq_I) (n t : Int32) (m : Nat) : tq_I := (if n ≤ (nI 9) then (if n ≤ (nI 1) then (I_X12_puts I ((nI 97) + t)) else (I_X12_puts (I_X12_puts I ((nI 48) + (tq_rem n (nI 10)))) ((nI 97) + t))) else (if n ≤ (nI 1) then (I_X12_puts (I_X12_puts I (nI 49)) ((nI 97) + t)) else (I_X12_puts (I_X12_puts (I_X12_puts I (nI 49)) ((nI 48) + (tq_rem n (nI 10)))) ((nI 97) + t))))
set_option maxRecDepth 20000 in
theorem c_X12_writesItem (g : tq_G) (I : tq_I) (J : Int64) (n t : Int32) (m : Nat) (k : tr_out I m) (hm : m ≤ 140) : CT g mX12_writesItem 1 0 0 [.ref 117, .int n, .int t] (tq_SC ++ tq_SR) tq_RR I J (tq_ret (tq_SC ++ tq_SR) tq_RR none (I_X12_writesItem I n t m) J) := by
  refine CT.ret kX12_writesItem (Nat.le_of_ble_eq_true rfl) (fun x0 C hR hZ => ?_)
  refine EV_en (lv' := [some (.ref 117), some (.int n), some (.int t)]) 0 rfl ?_
  refine EV_blk (own := 12) C rfl [(.iload_n 1, 0, 0, 0, 0), (.bipush 9, 0, 0, 0, (nI 9))] (pc' := 3) (by decide +kernel) (lv' := [some (.ref 117), some (.int n), some (.int t)]) (st' := [.int (nI 9), .int n]) (I' := I) (J' := J) rfl ?_
  refine EV_icmp_le (off := 9) (tgt := 12) C (by decide +kernel) (by decide) (fun h1 => ?_) (fun h1 => ?_)
  · skip
    refine EV_blk (own := 12) C rfl [(.iload_n 1, 0, 0, 0, 0), (.iconst 1, 0, 0, 0, (nI 1))] (pc' := 14) (by decide +kernel) (lv' := [some (.ref 117), some (.int n), some (.int t)]) (st' := [.int (nI 1), .int n]) (I' := I) (J' := J) rfl ?_
    refine EV_icmp_le (off := 14) (tgt := 28) C (by decide +kernel) (by decide) (fun h2 => ?_) (fun h2 => ?_)
    · skip
      refine EV_blk (own := 12) C rfl [(.aload_n 0, 0, 0, 0, 0), (.bipush 97, 0, 0, 0, (nI 97)), (.iload_n 2, 0, 0, 0, 0), (.iadd, 0, 0, 0, 0)] (pc' := 33) (by decide +kernel) (lv' := [some (.ref 117), some (.int n), some (.int t)]) (st' := [.int ((nI 97) + t), .ref 117]) (I' := I) (J' := J) rfl ?_
      have hp33 : tr_out I (m + 0) := k
      refine EV_cV (own := 12) (idx := 218) (μ' := mX12_puts) (b := 117) (cb := 12) (av := [.int ((nI 97) + t)]) (rest := []) C hR rfl (Or.inl ⟨1265, by decide⟩) kX12_puts sX12_puts (c_X12_puts g I J ((nI 97) + t) hp33.1 (by have := hp33.2; omega)) rfl rfl (by decide +kernel) rfl (by decide) (Nat.le_of_ble_eq_true rfl) rfl ⟨Nat.zero_le _, Nat.zero_le _⟩ ?_
      exact EV_vret C hZ rfl (by decide +kernel) (Nat.le_refl _) (Nat.le_refl _) ⟨rfl, rfl, rfl, by simp only [I_X12_writesItem, if_pos h1, if_pos h2], rfl⟩
    · skip
      refine EV_blk (own := 12) C rfl [(.aload_n 0, 0, 0, 0, 0), (.bipush 48, 0, 0, 0, (nI 48)), (.iload_n 1, 0, 0, 0, 0), (.bipush 10, 0, 0, 0, (nI 10))] (pc' := 23) (by decide +kernel) (lv' := [some (.ref 117), some (.int n), some (.int t)]) (st' := [.int (nI 10), .int n, .int (nI 48), .ref 117]) (I' := I) (J' := J) rfl ?_
      refine EV_irem C (by decide +kernel) (by decide) ?_
      refine EV_blk (own := 12) C rfl [(.iadd, 0, 0, 0, 0)] (pc' := 25) (by decide +kernel) (lv' := [some (.ref 117), some (.int n), some (.int t)]) (st' := [.int ((nI 48) + (tq_rem n (nI 10))), .ref 117]) (I' := I) (J' := J) rfl ?_
      have hp25 : tr_out I (m + 0) := k
      refine EV_cV (own := 12) (idx := 218) (μ' := mX12_puts) (b := 117) (cb := 12) (av := [.int ((nI 48) + (tq_rem n (nI 10)))]) (rest := []) C hR rfl (Or.inl ⟨1265, by decide⟩) kX12_puts sX12_puts (c_X12_puts g I J ((nI 48) + (tq_rem n (nI 10))) hp25.1 (by have := hp25.2; omega)) rfl rfl (by decide +kernel) rfl (by decide) (Nat.le_of_ble_eq_true rfl) rfl ⟨Nat.zero_le _, Nat.zero_le _⟩ ?_
      refine EV_blk (own := 12) C rfl [(.aload_n 0, 0, 0, 0, 0), (.bipush 97, 0, 0, 0, (nI 97)), (.iload_n 2, 0, 0, 0, 0), (.iadd, 0, 0, 0, 0)] (pc' := 33) (by decide +kernel) (lv' := [some (.ref 117), some (.int n), some (.int t)]) (st' := [.int ((nI 97) + t), .ref 117]) (I' := (I_X12_puts I ((nI 48) + (tq_rem n (nI 10))))) (J' := J) rfl ?_
      have hp33 : tr_out (I_X12_puts I ((nI 48) + (tq_rem n (nI 10)))) (m + 1) := (k.puts (by omega))
      refine EV_cV (own := 12) (idx := 218) (μ' := mX12_puts) (b := 117) (cb := 12) (av := [.int ((nI 97) + t)]) (rest := []) C hR rfl (Or.inl ⟨1265, by decide⟩) kX12_puts sX12_puts (c_X12_puts g (I_X12_puts I ((nI 48) + (tq_rem n (nI 10)))) J ((nI 97) + t) hp33.1 (by have := hp33.2; omega)) rfl rfl (by decide +kernel) rfl (by decide) (Nat.le_of_ble_eq_true rfl) rfl ⟨Nat.zero_le _, Nat.zero_le _⟩ ?_
      exact EV_vret C hZ rfl (by decide +kernel) (Nat.le_refl _) (Nat.le_refl _) ⟨rfl, rfl, rfl, by simp only [I_X12_writesItem, if_pos h1, if_neg h2], rfl⟩
  · skip
    refine EV_blk (own := 12) C rfl [(.aload_n 0, 0, 0, 0, 0), (.bipush 49, 0, 0, 0, (nI 49))] (pc' := 9) (by decide +kernel) (lv' := [some (.ref 117), some (.int n), some (.int t)]) (st' := [.int (nI 49), .ref 117]) (I' := I) (J' := J) rfl ?_
    have hp9 : tr_out I (m + 0) := k
    refine EV_cV (own := 12) (idx := 218) (μ' := mX12_puts) (b := 117) (cb := 12) (av := [.int (nI 49)]) (rest := []) C hR rfl (Or.inl ⟨1265, by decide⟩) kX12_puts sX12_puts (c_X12_puts g I J (nI 49) hp9.1 (by have := hp9.2; omega)) rfl rfl (by decide +kernel) rfl (by decide) (Nat.le_of_ble_eq_true rfl) rfl ⟨Nat.zero_le _, Nat.zero_le _⟩ ?_
    refine EV_blk (own := 12) C rfl [(.iload_n 1, 0, 0, 0, 0), (.iconst 1, 0, 0, 0, (nI 1))] (pc' := 14) (by decide +kernel) (lv' := [some (.ref 117), some (.int n), some (.int t)]) (st' := [.int (nI 1), .int n]) (I' := (I_X12_puts I (nI 49))) (J' := J) rfl ?_
    refine EV_icmp_le (off := 14) (tgt := 28) C (by decide +kernel) (by decide) (fun h3 => ?_) (fun h3 => ?_)
    · skip
      refine EV_blk (own := 12) C rfl [(.aload_n 0, 0, 0, 0, 0), (.bipush 97, 0, 0, 0, (nI 97)), (.iload_n 2, 0, 0, 0, 0), (.iadd, 0, 0, 0, 0)] (pc' := 33) (by decide +kernel) (lv' := [some (.ref 117), some (.int n), some (.int t)]) (st' := [.int ((nI 97) + t), .ref 117]) (I' := (I_X12_puts I (nI 49))) (J' := J) rfl ?_
      have hp33 : tr_out (I_X12_puts I (nI 49)) (m + 1) := (k.puts (by omega))
      refine EV_cV (own := 12) (idx := 218) (μ' := mX12_puts) (b := 117) (cb := 12) (av := [.int ((nI 97) + t)]) (rest := []) C hR rfl (Or.inl ⟨1265, by decide⟩) kX12_puts sX12_puts (c_X12_puts g (I_X12_puts I (nI 49)) J ((nI 97) + t) hp33.1 (by have := hp33.2; omega)) rfl rfl (by decide +kernel) rfl (by decide) (Nat.le_of_ble_eq_true rfl) rfl ⟨Nat.zero_le _, Nat.zero_le _⟩ ?_
      exact EV_vret C hZ rfl (by decide +kernel) (Nat.le_refl _) (Nat.le_refl _) ⟨rfl, rfl, rfl, by simp only [I_X12_writesItem, if_neg h1, if_pos h3], rfl⟩
    · skip
      refine EV_blk (own := 12) C rfl [(.aload_n 0, 0, 0, 0, 0), (.bipush 48, 0, 0, 0, (nI 48)), (.iload_n 1, 0, 0, 0, 0), (.bipush 10, 0, 0, 0, (nI 10))] (pc' := 23) (by decide +kernel) (lv' := [some (.ref 117), some (.int n), some (.int t)]) (st' := [.int (nI 10), .int n, .int (nI 48), .ref 117]) (I' := (I_X12_puts I (nI 49))) (J' := J) rfl ?_
      refine EV_irem C (by decide +kernel) (by decide) ?_
      refine EV_blk (own := 12) C rfl [(.iadd, 0, 0, 0, 0)] (pc' := 25) (by decide +kernel) (lv' := [some (.ref 117), some (.int n), some (.int t)]) (st' := [.int ((nI 48) + (tq_rem n (nI 10))), .ref 117]) (I' := (I_X12_puts I (nI 49))) (J' := J) rfl ?_
      have hp25 : tr_out (I_X12_puts I (nI 49)) (m + 1) := (k.puts (by omega))
      refine EV_cV (own := 12) (idx := 218) (μ' := mX12_puts) (b := 117) (cb := 12) (av := [.int ((nI 48) + (tq_rem n (nI 10)))]) (rest := []) C hR rfl (Or.inl ⟨1265, by decide⟩) kX12_puts sX12_puts (c_X12_puts g (I_X12_puts I (nI 49)) J ((nI 48) + (tq_rem n (nI 10))) hp25.1 (by have := hp25.2; omega)) rfl rfl (by decide +kernel) rfl (by decide) (Nat.le_of_ble_eq_true rfl) rfl ⟨Nat.zero_le _, Nat.zero_le _⟩ ?_
      refine EV_blk (own := 12) C rfl [(.aload_n 0, 0, 0, 0, 0), (.bipush 97, 0, 0, 0, (nI 97)), (.iload_n 2, 0, 0, 0, 0), (.iadd, 0, 0, 0, 0)] (pc' := 33) (by decide +kernel) (lv' := [some (.ref 117), some (.int n), some (.int t)]) (st' := [.int ((nI 97) + t), .ref 117]) (I' := (I_X12_puts (I_X12_puts I (nI 49)) ((nI 48) + (tq_rem n (nI 10))))) (J' := J) rfl ?_
      have hp33 : tr_out (I_X12_puts (I_X12_puts I (nI 49)) ((nI 48) + (tq_rem n (nI 10)))) (m + 2) := ((k.puts (by omega)).puts (by omega))
      refine EV_cV (own := 12) (idx := 218) (μ' := mX12_puts) (b := 117) (cb := 12) (av := [.int ((nI 97) + t)]) (rest := []) C hR rfl (Or.inl ⟨1265, by decide⟩) kX12_puts sX12_puts (c_X12_puts g (I_X12_puts (I_X12_puts I (nI 49)) ((nI 48) + (tq_rem n (nI 10)))) J ((nI 97) + t) hp33.1 (by have := hp33.2; omega)) rfl rfl (by decide +kernel) rfl (by decide) (Nat.le_of_ble_eq_true rfl) rfl ⟨Nat.zero_le _, Nat.zero_le _⟩ ?_
      exact EV_vret C hZ rfl (by decide +kernel) (Nat.le_refl _) (Nat.le_refl _) ⟨rfl, rfl, rfl, by simp only [I_X12_writesItem, if_neg h1, if_neg h3], rfl⟩
theorem fr_X12_writesItem (I : tq_I) (n t : Int32) (m : Nat) {cz : Nat} (hc : cz ≠ 117 ∧ cz ≠ 120) (jz : Nat) : I_X12_writesItem I n t m cz jz = I cz jz := by
  obtain ⟨hc0, hc1⟩ := hc
  simp only [I_X12_writesItem]
  (repeat' split) <;> simp (disch := first | assumption | (simp only [ne_eq] at *; simp [*])) [tq_u, tq_cp, hc0, hc1, fr_X12_touches, fr_ta1, fr_X12_touchesAll, fr_cps1, fr_X12_copies, fr_sav, fr_bg1, fr_bg2, fr_X12_begins, fr_ly1, fr_X12_lays, fr_bgn1, fr_X12_begin, fr_X12_setCorner, fr_fi1, fr_X12_fill, fr_fg1, fr_X12_forgets, fr_rc1, fr_rc2, fr_X12_reaches, fr_mfl1, fr_X12_flood, fr_mrg1, fr_X12_regions, fr_mra1, fr_X12_raise, fr_sp1, fr_X12_setPath, fr_sr1, fr_sr2, fr_X12_setRank, fr_X12_becomes, fr_X12_setTiles, fr_X12_setVariants, fr_X12_setSeed, fr_X12_setBorder, fr_X12_makesUp, fr_X12_finds, fr_X12_parts, fr_put, fr_mfy2, fr_X12_findsLayers, fr_mfp1, fr_mfp2, fr_X12_findsPieces, fr_X12_layers, fr_X12_layer, fr_X12_pieces, fr_X12_piece, fr_X12_isStaleAt, fr_mpa1, fr_X12_paints, fr_X12_isStale, fr_mst2, fr_X12_stale, fr_mpt1, fr_X12_paint, fr_X12_paintCell, fr_mfk2, fr_mfk3, fr_X12_findsKinds, fr_X12_kinds, fr_X12_kind, fr_X12_undo, fr_X12_here, fr_X12_type, fr_X12_clearText, fr_X12_number, fr_mri1, fr_X12_readsItem, fr_rwS, fr_X12_readsRow, fr_raE, fr_X12_readsAll, fr_X12_textFault, fr_mld1, fr_X12_load, fr_X12_puts]
theorem fs_wi {I : tq_I} {n t : Int32} {m j : Nat} (hj : j ≠ 5) : I_X12_writesItem I n t m 117 j = I 117 j := by
  unfold I_X12_writesItem
  (repeat' split) <;> simp (disch := exact hj) only [fs_puts]
theorem tr_out.item {I : tq_I} {n t : Int32} {m q : Nat} (k : tr_out I m) (hm : m ≤ 140) (hn : 1 ≤ n.toInt) (hq : n.toInt ≤ (q : Int)) : tr_out (I_X12_writesItem I n t m) (m + q) := by
  have e1 : (nI 1).toInt = 1 := by decide
  have e9 : (nI 9).toInt = 9 := by decide
  have up : ∀ {K : tq_I} {a b : Nat}, a ≤ b → tr_out K a → tr_out K b := fun h k => ⟨k.1, by have := k.2; omega⟩
  unfold I_X12_writesItem
  split
  · split
    · exact up (show m + 1 ≤ m + q by omega) (k.puts (by omega))
    · rename_i c1 c2
      rw [Int32.le_iff_toInt_le, e1] at c2
      exact up (show m + 1 + 1 ≤ m + q by omega) ((k.puts (by omega)).puts (by omega))
  · rename_i c1
    rw [Int32.le_iff_toInt_le, e9] at c1
    split
    · exact up (show m + 1 + 1 ≤ m + q by omega) ((k.puts (by omega)).puts (by omega))
    · exact up (show m + 1 + 1 + 1 ≤ m + q by omega) (((k.puts (by omega)).puts (by omega)).puts (by omega))
def tr_wrP (w h y i : Nat) (a : Int32 × tq_I) : Prop := tr_wh a.2 w h ∧ (0 ≤ a.1.toInt ∧ a.1.toInt ≤ (i : Int)) ∧ tr_out a.2 (12 * y + 1 + i - tq_N a.1)
theorem tr_wrP.inc {w h y i : Nat} {a : Int32 × tq_I} (k : tr_wrP w h y i a) (hi : i ≤ 11) : (a.1 + nI 1).toInt = a.1.toInt + 1 ∧ tq_N (a.1 + nI 1) = tq_N a.1 + 1 ∧ tq_N a.1 ≤ i := by
  have h1 := k.2.1
  have e := tr_ainc (n := i) h1.1 h1.2 (by omega)
  refine ⟨e, ?_, ?_⟩ <;> (unfold tq_N; omega)
theorem tr_wrP.go {w h y i : Nat} {a : Int32 × tq_I} (k : tr_wrP w h y i a) (hi : i ≤ 11) : tr_wrP w h y (i + 1) (a.1 + nI 1, a.2) := by
  obtain ⟨e1, e2, e3⟩ := k.inc hi
  have h1 := k.2.1
  have h2 := k.2.2
  unfold tr_wrP
  dsimp only
  refine ⟨k.1, by omega, ?_⟩
  rw [e2, show 12 * y + 1 + (i + 1) - (tq_N a.1 + 1) = 12 * y + 1 + i - tq_N a.1 by omega]
  exact h2
theorem tr_wrP.put {w h y i : Nat} {a : Int32 × tq_I} {t : Int32} (k : tr_wrP w h y i a) (hi : i ≤ 10) (hy : y ≤ 10) : tr_wrP w h y (i + 1) (nI 0, I_X12_writesItem a.2 (a.1 + nI 1) t (12 * y + 1 + i - tq_N a.1)) := by
  obtain ⟨e1, e2, e3⟩ := k.inc (by omega)
  have h1 := k.2.1
  have h2 := k.2.2
  unfold tr_wrP
  dsimp only
  refine ⟨k.1.fr (fun j => fr_X12_writesItem _ _ _ _ (by decide) j), by have : (nI 0).toInt = 0 := (by decide); omega, ?_⟩
  have h3 := h2.item (n := a.1 + nI 1) (t := t) (q := tq_N a.1 + 1) (by omega) (by omega) (by have := tq_NI h1.1; omega)
  rw [show tq_N (nI 0) = 0 from by decide, show 12 * y + 1 + (i + 1) - 0 = 12 * y + 1 + i - tq_N a.1 + (tq_N a.1 + 1) by omega]
  exact h3
def f_mwr1 (y : Nat) (w h : Nat) (i : Nat) (a : Int32 × tq_I) : Int32 × tq_I := (if (nI i) = (a.2 118 0) then ((nI 0), (I_X12_writesItem a.2 (a.1 + (nI 1)) (a.2 118 (22 + 11 * y + i)) (12 * y + 1 + i - tq_N a.1))) else (if (a.2 118 (22 + 11 * y + (i + 1))) = (a.2 118 (22 + 11 * y + i)) then ((a.1 + (nI 1)), a.2) else ((nI 0), (I_X12_writesItem a.2 (a.1 + (nI 1)) (a.2 118 (22 + 11 * y + i)) (12 * y + 1 + i - tq_N a.1)))))
set_option maxRecDepth 20000 in
theorem lp_mwr1 {g : tq_G} {x0 : tq_X} (C : tq_C g mX12_write x0) (hR : tq_ht x0 2 0 0) (J : Int64) (y : Nat) (w h : Nat) (hy : y ≤ 10) (hw10 : w ≤ 10) : ∀ (n i : Nat) (a : Int32 × tq_I), i + n = w + 1 → tr_wrP w h y i a → EV g mX12_write x0 0 0 90 [some (.ref 117), some (.int (nI y)), some (.int ((tq_it (f_mwr1 y w h) n i a).1)), some (.int (nI (i + n)))] [] (tq_SC ++ tq_SR) tq_RR ((tq_it (f_mwr1 y w h) n i a).2) J → EV g mX12_write x0 0 0 31 [some (.ref 117), some (.int (nI y)), some (.int a.1), some (.int (nI i))] [] (tq_SC ++ tq_SR) tq_RR a.2 J := by
  intro n
  induction n with
  | zero =>
    intro i a hi hI kk
    rw [Nat.add_zero] at kk
    refine EV_blk (own := 12) C rfl [(.iload_n 3, 0, 0, 0, 0), (.aload_n 0, 0, 0, 0, 0), (.getfield 7, 12, 0, 899, 0), (.iconst 0, 0, 0, 0, (nI 0))] (pc' := 37) (by decide +kernel) (lv' := [some (.ref 117), some (.int (nI y)), some (.int a.1), some (.int (nI i))]) (st' := [.int (nI 0), .ref 118, .int (nI i)]) (I' := a.2) (J' := J) rfl ?_
    refine EV_iald (j := 0) C (by decide +kernel) rfl (nI_toInt (by omega)) (by omega) ?_
    refine EV_icmp_gt (off := 52) (tgt := 90) C (by decide +kernel) (by decide) (fun h1 => ?_) (fun h1 => ?_)
    · skip
      exact kk
    · skip
      exact absurd h1 (by simp (disch := omega) only [Int32.lt_iff_toInt_lt, Int32.le_iff_toInt_le, Int32.toInt_zero, nI_toInt, tq_m1, hI.1.1]; omega)
  | succ n ih =>
    intro i a hi hI kk
    rw [show i + (n + 1) = (i + 1) + n by omega] at kk
    refine EV_blk (own := 12) C rfl [(.iload_n 3, 0, 0, 0, 0), (.aload_n 0, 0, 0, 0, 0), (.getfield 7, 12, 0, 899, 0), (.iconst 0, 0, 0, 0, (nI 0))] (pc' := 37) (by decide +kernel) (lv' := [some (.ref 117), some (.int (nI y)), some (.int a.1), some (.int (nI i))]) (st' := [.int (nI 0), .ref 118, .int (nI i)]) (I' := a.2) (J' := J) rfl ?_
    refine EV_iald (j := 0) C (by decide +kernel) rfl (nI_toInt (by omega)) (by omega) ?_
    refine EV_icmp_gt (off := 52) (tgt := 90) C (by decide +kernel) (by decide) (fun h1 => ?_) (fun h1 => ?_)
    · skip
      exact absurd h1 (by simp (disch := omega) only [Int32.lt_iff_toInt_lt, Int32.le_iff_toInt_le, Int32.toInt_zero, nI_toInt, tq_m1, hI.1.1]; omega)
    · skip
      refine EV_blk (own := 12) C rfl [(.iinc 2 1, 0, 0, 0, (nI 1)), (.iload_n 3, 0, 0, 0, 0), (.aload_n 0, 0, 0, 0, 0), (.getfield 7, 12, 0, 899, 0), (.iconst 0, 0, 0, 0, (nI 0))] (pc' := 50) (by decide +kernel) (lv' := [some (.ref 117), some (.int (nI y)), some (.int (a.1 + (nI 1))), some (.int (nI i))]) (st' := [.int (nI 0), .ref 118, .int (nI i)]) (I' := a.2) (J' := J) rfl ?_
      refine EV_iald (j := 0) C (by decide +kernel) rfl (nI_toInt (by omega)) (by omega) ?_
      refine EV_icmp_eq (off := 20) (tgt := 71) C (by decide +kernel) (by decide) (fun h2 => ?_) (fun h2 => ?_)
      · skip
        refine EV_blk (own := 12) C rfl [(.aload_n 0, 0, 0, 0, 0), (.iload_n 2, 0, 0, 0, 0), (.aload_n 0, 0, 0, 0, 0), (.iload_n 3, 0, 0, 0, 0), (.iload_n 1, 0, 0, 0, 0)] (pc' := 76) (by decide +kernel) (lv' := [some (.ref 117), some (.int (nI y)), some (.int (a.1 + (nI 1))), some (.int (nI i))]) (st' := [.int (nI y), .int (nI i), .ref 117, .int (a.1 + (nI 1)), .ref 117]) (I' := a.2) (J' := J) rfl ?_
        refine EV_cV (own := 12) (idx := 76) (μ' := mX12_cornerOf) (b := 117) (cb := 12) (av := [.int (nI i), .int (nI y)]) (rest := [.int (a.1 + (nI 1)), .ref 117]) C hR rfl (Or.inl ⟨1006, by decide⟩) kX12_cornerOf sX12_cornerOf (c_X12_cornerOf g a.2 J i y (by omega) (by omega)) rfl rfl (by decide +kernel) rfl (by decide) (Nat.le_of_ble_eq_true rfl) rfl ⟨Nat.zero_le _, Nat.zero_le _⟩ ?_
        refine EV_cV (own := 12) (idx := 222) (μ' := mX12_writesItem) (b := 117) (cb := 12) (av := [.int (a.1 + (nI 1)), .int (a.2 118 (22 + 11 * y + i))]) (rest := []) C hR rfl (Or.inl ⟨1269, by decide⟩) kX12_writesItem sX12_writesItem (c_X12_writesItem g a.2 J (a.1 + (nI 1)) (a.2 118 (22 + 11 * y + i)) (12 * y + 1 + i - tq_N a.1) hI.2.2 (by omega)) rfl rfl (by decide +kernel) rfl (by decide) (Nat.le_of_ble_eq_true rfl) rfl ⟨Nat.zero_le _, Nat.zero_le _⟩ ?_
        refine EV_blk (own := 12) C rfl [(.iconst 0, 0, 0, 0, (nI 0)), (.istore_n 2, 0, 0, 0, 0), (.iinc 3 1, 0, 0, 0, (nI 1)), (.goto (-56), 0, 0, 0, 0)] (pc' := 31) (by decide +kernel) (lv' := [some (.ref 117), some (.int (nI y)), some (.int (nI 0)), some (.int ((nI i) + (nI 1)))]) (st' := []) (I' := (I_X12_writesItem a.2 (a.1 + (nI 1)) (a.2 118 (22 + 11 * y + i)) (12 * y + 1 + i - tq_N a.1))) (J' := J) rfl ?_
        rw [show ((nI i) + (nI 1)) = (nI (i + 1)) from by simp (disch := omega) only [nI_add, tq_mul] <;> exact congrArg nI (by omega)]
        rw [tq_its, show (f_mwr1 y w h) i a = ((nI 0), (I_X12_writesItem a.2 (a.1 + (nI 1)) (a.2 118 (22 + 11 * y + i)) (12 * y + 1 + i - tq_N a.1))) from by simp only [f_mwr1, if_neg h1, if_pos h2]] at kk
        exact ih (i + 1) ((nI 0), (I_X12_writesItem a.2 (a.1 + (nI 1)) (a.2 118 (22 + 11 * y + i)) (12 * y + 1 + i - tq_N a.1))) (by omega) (hI.put (by omega) hy) kk
      · skip
        refine EV_blk (own := 12) C rfl [(.aload_n 0, 0, 0, 0, 0), (.iload_n 3, 0, 0, 0, 0), (.iconst 1, 0, 0, 0, (nI 1)), (.iadd, 0, 0, 0, 0), (.iload_n 1, 0, 0, 0, 0)] (pc' := 59) (by decide +kernel) (lv' := [some (.ref 117), some (.int (nI y)), some (.int (a.1 + (nI 1))), some (.int (nI i))]) (st' := [.int (nI y), .int ((nI i) + (nI 1)), .ref 117]) (I' := a.2) (J' := J) rfl ?_
        rw [show ((nI i) + (nI 1)) = (nI (i + 1)) from by simp (disch := omega) only [nI_add, tq_mul, tq_rem_nI, tq_div_nI, tq_sub_nI]]
        refine EV_cV (own := 12) (idx := 76) (μ' := mX12_cornerOf) (b := 117) (cb := 12) (av := [.int (nI (i + 1)), .int (nI y)]) (rest := []) C hR rfl (Or.inl ⟨1006, by decide⟩) kX12_cornerOf sX12_cornerOf (c_X12_cornerOf g a.2 J (i + 1) y (by omega) (by omega)) rfl rfl (by decide +kernel) rfl (by decide) (Nat.le_of_ble_eq_true rfl) rfl ⟨Nat.zero_le _, Nat.zero_le _⟩ ?_
        refine EV_blk (own := 12) C rfl [(.aload_n 0, 0, 0, 0, 0), (.iload_n 3, 0, 0, 0, 0), (.iload_n 1, 0, 0, 0, 0)] (pc' := 65) (by decide +kernel) (lv' := [some (.ref 117), some (.int (nI y)), some (.int (a.1 + (nI 1))), some (.int (nI i))]) (st' := [.int (nI y), .int (nI i), .ref 117, .int (a.2 118 (22 + 11 * y + (i + 1)))]) (I' := a.2) (J' := J) rfl ?_
        refine EV_cV (own := 12) (idx := 76) (μ' := mX12_cornerOf) (b := 117) (cb := 12) (av := [.int (nI i), .int (nI y)]) (rest := [.int (a.2 118 (22 + 11 * y + (i + 1)))]) C hR rfl (Or.inl ⟨1006, by decide⟩) kX12_cornerOf sX12_cornerOf (c_X12_cornerOf g a.2 J i y (by omega) (by omega)) rfl rfl (by decide +kernel) rfl (by decide) (Nat.le_of_ble_eq_true rfl) rfl ⟨Nat.zero_le _, Nat.zero_le _⟩ ?_
        refine EV_icmp_eq (off := 16) (tgt := 84) C (by decide +kernel) (by decide) (fun h3 => ?_) (fun h3 => ?_)
        · skip
          refine EV_blk (own := 12) C rfl [(.iinc 3 1, 0, 0, 0, (nI 1)), (.goto (-56), 0, 0, 0, 0)] (pc' := 31) (by decide +kernel) (lv' := [some (.ref 117), some (.int (nI y)), some (.int (a.1 + (nI 1))), some (.int ((nI i) + (nI 1)))]) (st' := []) (I' := a.2) (J' := J) rfl ?_
          rw [show ((nI i) + (nI 1)) = (nI (i + 1)) from by simp (disch := omega) only [nI_add, tq_mul] <;> exact congrArg nI (by omega)]
          rw [tq_its, show (f_mwr1 y w h) i a = ((a.1 + (nI 1)), a.2) from by simp only [f_mwr1, if_neg h1, if_neg h2, if_pos h3]] at kk
          exact ih (i + 1) ((a.1 + (nI 1)), a.2) (by omega) (hI.go (by omega)) kk
        · skip
          refine EV_blk (own := 12) C rfl [(.aload_n 0, 0, 0, 0, 0), (.iload_n 2, 0, 0, 0, 0), (.aload_n 0, 0, 0, 0, 0), (.iload_n 3, 0, 0, 0, 0), (.iload_n 1, 0, 0, 0, 0)] (pc' := 76) (by decide +kernel) (lv' := [some (.ref 117), some (.int (nI y)), some (.int (a.1 + (nI 1))), some (.int (nI i))]) (st' := [.int (nI y), .int (nI i), .ref 117, .int (a.1 + (nI 1)), .ref 117]) (I' := a.2) (J' := J) rfl ?_
          refine EV_cV (own := 12) (idx := 76) (μ' := mX12_cornerOf) (b := 117) (cb := 12) (av := [.int (nI i), .int (nI y)]) (rest := [.int (a.1 + (nI 1)), .ref 117]) C hR rfl (Or.inl ⟨1006, by decide⟩) kX12_cornerOf sX12_cornerOf (c_X12_cornerOf g a.2 J i y (by omega) (by omega)) rfl rfl (by decide +kernel) rfl (by decide) (Nat.le_of_ble_eq_true rfl) rfl ⟨Nat.zero_le _, Nat.zero_le _⟩ ?_
          refine EV_cV (own := 12) (idx := 222) (μ' := mX12_writesItem) (b := 117) (cb := 12) (av := [.int (a.1 + (nI 1)), .int (a.2 118 (22 + 11 * y + i))]) (rest := []) C hR rfl (Or.inl ⟨1269, by decide⟩) kX12_writesItem sX12_writesItem (c_X12_writesItem g a.2 J (a.1 + (nI 1)) (a.2 118 (22 + 11 * y + i)) (12 * y + 1 + i - tq_N a.1) hI.2.2 (by omega)) rfl rfl (by decide +kernel) rfl (by decide) (Nat.le_of_ble_eq_true rfl) rfl ⟨Nat.zero_le _, Nat.zero_le _⟩ ?_
          refine EV_blk (own := 12) C rfl [(.iconst 0, 0, 0, 0, (nI 0)), (.istore_n 2, 0, 0, 0, 0), (.iinc 3 1, 0, 0, 0, (nI 1)), (.goto (-56), 0, 0, 0, 0)] (pc' := 31) (by decide +kernel) (lv' := [some (.ref 117), some (.int (nI y)), some (.int (nI 0)), some (.int ((nI i) + (nI 1)))]) (st' := []) (I' := (I_X12_writesItem a.2 (a.1 + (nI 1)) (a.2 118 (22 + 11 * y + i)) (12 * y + 1 + i - tq_N a.1))) (J' := J) rfl ?_
          rw [show ((nI i) + (nI 1)) = (nI (i + 1)) from by simp (disch := omega) only [nI_add, tq_mul] <;> exact congrArg nI (by omega)]
          rw [tq_its, show (f_mwr1 y w h) i a = ((nI 0), (I_X12_writesItem a.2 (a.1 + (nI 1)) (a.2 118 (22 + 11 * y + i)) (12 * y + 1 + i - tq_N a.1))) from by simp only [f_mwr1, if_neg h1, if_neg h2, if_neg h3]] at kk
          exact ih (i + 1) ((nI 0), (I_X12_writesItem a.2 (a.1 + (nI 1)) (a.2 118 (22 + 11 * y + i)) (12 * y + 1 + i - tq_N a.1))) (by omega) (hI.put (by omega) hy) kk
theorem fr_mwr1 (y : Nat) (w h : Nat) {cz : Nat} (hc : cz ≠ 117 ∧ cz ≠ 120) (n i : Nat) (a : Int32 × tq_I) (jz : Nat) : (tq_it (f_mwr1 y w h) n i a).2 cz jz = a.2 cz jz := by
  obtain ⟨hc0, hc1⟩ := hc
  refine tq_itF2 (fun i a j => ?_) n i a jz
  simp only [f_mwr1]
  (repeat' split) <;> simp (disch := first | assumption | (simp only [ne_eq] at *; simp [*])) [tq_u, tq_cp, hc0, hc1, fr_X12_touches, fr_ta1, fr_X12_touchesAll, fr_cps1, fr_X12_copies, fr_sav, fr_bg1, fr_bg2, fr_X12_begins, fr_ly1, fr_X12_lays, fr_bgn1, fr_X12_begin, fr_X12_setCorner, fr_fi1, fr_X12_fill, fr_fg1, fr_X12_forgets, fr_rc1, fr_rc2, fr_X12_reaches, fr_mfl1, fr_X12_flood, fr_mrg1, fr_X12_regions, fr_mra1, fr_X12_raise, fr_sp1, fr_X12_setPath, fr_sr1, fr_sr2, fr_X12_setRank, fr_X12_becomes, fr_X12_setTiles, fr_X12_setVariants, fr_X12_setSeed, fr_X12_setBorder, fr_X12_makesUp, fr_X12_finds, fr_X12_parts, fr_put, fr_mfy2, fr_X12_findsLayers, fr_mfp1, fr_mfp2, fr_X12_findsPieces, fr_X12_layers, fr_X12_layer, fr_X12_pieces, fr_X12_piece, fr_X12_isStaleAt, fr_mpa1, fr_X12_paints, fr_X12_isStale, fr_mst2, fr_X12_stale, fr_mpt1, fr_X12_paint, fr_X12_paintCell, fr_mfk2, fr_mfk3, fr_X12_findsKinds, fr_X12_kinds, fr_X12_kind, fr_X12_undo, fr_X12_here, fr_X12_type, fr_X12_clearText, fr_X12_number, fr_mri1, fr_X12_readsItem, fr_rwS, fr_X12_readsRow, fr_raE, fr_X12_readsAll, fr_X12_textFault, fr_mld1, fr_X12_load, fr_X12_puts, fr_X12_writesItem]
