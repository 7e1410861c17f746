/-! blocks of plain instructions, run by computation -/
abbrev tq_K : Type := List (Option Value) × List Value × tq_I × Int64
/-- an instruction, with its field's class, slot and link's place, or its constant -/
abbrev tq_E : Type := Instr × Nat × Nat × Nat × Int32
def tq_ld (lv : List (Option Value)) (st : List Value) (I : tq_I) (J : Int64) (f : Nat) : Option tq_K := match lv[f]? with
  | some (some (.int w)) => some (lv, .int w :: st, I, J)
  | _ => none
def tq_ldr (lv : List (Option Value)) (st : List Value) (I : tq_I) (J : Int64) (f : Nat) : Option tq_K := match lv[f]? with
  | some (some (.ref w)) => some (lv, .ref w :: st, I, J)
  | _ => none
def tq_ldl (lv : List (Option Value)) (st : List Value) (I : tq_I) (J : Int64) (f : Nat) : Option tq_K := match lv[f]? with
  | some (some (.long w)) => some (lv, .long w :: st, I, J)
  | _ => none
def tq_sti (nL : Nat) (lv : List (Option Value)) (st : List Value) (I : tq_I) (J : Int64) (f : Nat) : Option tq_K := match st with
  | .int w :: r => match Nat.ble (f + 1) nL, tq_lg lv f with
    | true, false => some (lv.set f (some (.int w)), r, I, J)
    | _, _ => none
  | _ => none
def tq_str (nL : Nat) (lv : List (Option Value)) (st : List Value) (I : tq_I) (J : Int64) (f : Nat) : Option tq_K := match st with
  | .ref w :: r => match Nat.ble (f + 1) nL, tq_lg lv f with
    | true, false => some (lv.set f (some (.ref w)), r, I, J)
    | _, _ => none
  | _ => none
def tq_stl (nL : Nat) (lv : List (Option Value)) (st : List Value) (I : tq_I) (J : Int64) (f : Nat) : Option tq_K := match st with
  | .long w :: r => match Nat.ble (f + 2) nL, tq_lg lv f with
    | true, false => some ((lv.set (f + 1) none).set f (some (.long w)), r, I, J)
    | _, _ => none
  | _ => none
def tq_inc (nL : Nat) (lv : List (Option Value)) (st : List Value) (I : tq_I) (J : Int64) (f : Nat) (v : Int32) : Option tq_K := match lv[f]? with
  | some (some (.int w)) => match Nat.ble (f + 1) nL, tq_lg lv f with
    | true, false => some (lv.set f (some (.int (w + v))), st, I, J)
    | _, _ => none
  | _ => none
def tq_b2 (o : Int32 → Int32 → Int32) (lv : List (Option Value)) (st : List Value) (I : tq_I) (J : Int64) : Option tq_K := match st with
  | .int b :: .int a :: r => some (lv, .int (o a b) :: r, I, J)
  | _ => none
def tq_l2 (o : Int64 → Int64 → Int64) (lv : List (Option Value)) (st : List Value) (I : tq_I) (J : Int64) : Option tq_K := match st with
  | .long b :: .long a :: r => some (lv, .long (o a b) :: r, I, J)
  | _ => none
def tq_gf1 (sh : List tq_S) (R : tq_R) (c j : Nat) (lv : List (Option Value)) (st : List Value) (I : tq_I) (J : Int64) : Option tq_K := match st with
  | .ref a :: r => match sh[a]? with
    | some (.inl c') => match Nat.beq c' c with
      | true => some (lv, tq_av R I J (tq_ty c j) a j :: r, I, J)
      | false => none
    | _ => none
  | _ => none
def tq_isI (c j : Nat) : Bool := match tq_ty c j with
  | .int => !(tq_T c j).2.2.2
  | _ => false
def tq_pf1 (sh : List tq_S) (c j : Nat) (lv : List (Option Value)) (st : List Value) (I : tq_I) (J : Int64) : Option tq_K := match st with
  | .int w :: .ref a :: r => match sh[a]? with
    | some (.inl c') => match Nat.beq c' c, tq_isI c j with
      | true, true => some (lv, r, tq_u I a j w, J)
      | _, _ => none
    | _ => none
  | _ => none
def tq_c1 (v : Value) : Bool := Nat.beq v.category 1
def tq_dup (lv : List (Option Value)) (st : List Value) (I : tq_I) (J : Int64) : Option tq_K := match st with
  | a :: r => match tq_c1 a with
    | true => some (lv, a :: a :: r, I, J)
    | false => none
  | _ => none
def tq_dup2 (lv : List (Option Value)) (st : List Value) (I : tq_I) (J : Int64) : Option tq_K := match st with
  | a :: b :: r => match tq_c1 a, tq_c1 b with
    | true, true => some (lv, a :: b :: a :: b :: r, I, J)
    | _, _ => none
  | _ => none
def tq_pop (lv : List (Option Value)) (st : List Value) (I : tq_I) (J : Int64) : Option tq_K := match st with
  | a :: r => match tq_c1 a with
    | true => some (lv, r, I, J)
    | false => none
  | _ => none
def tq_i2l (lv : List (Option Value)) (st : List Value) (I : tq_I) (J : Int64) : Option tq_K := match st with
  | .int a :: r => some (lv, .long a.toInt64 :: r, I, J)
  | _ => none
def tq_neg (lv : List (Option Value)) (st : List Value) (I : tq_I) (J : Int64) : Option tq_K := match st with
  | .int a :: r => some (lv, .int (-a) :: r, I, J)
  | _ => none
/-- one plain instruction -/
def tq_st (nL : Nat) (sh : List tq_S) (R : tq_R) (i : Instr) (c j : Nat) (v : Int32) (lv : List (Option Value)) (st : List Value) (I : tq_I) (J : Int64) : Option tq_K := match i with
  | .iconst _ => some (lv, .int v :: st, I, J)
  | .bipush _ => some (lv, .int v :: st, I, J)
  | .sipush _ => some (lv, .int v :: st, I, J)
  | .ldc _ => some (lv, .int v :: st, I, J)
  | .ldc_w _ => some (lv, .int v :: st, I, J)
  | .iload_n f => tq_ld lv st I J f.val
  | .iload f => tq_ld lv st I J f
  | .aload_n f => tq_ldr lv st I J f.val
  | .lload_n f => tq_ldl lv st I J f.val
  | .lload f => tq_ldl lv st I J f
  | .istore_n f => tq_sti nL lv st I J f.val
  | .istore f => tq_sti nL lv st I J f
  | .astore_n f => tq_str nL lv st I J f.val
  | .lstore_n f => tq_stl nL lv st I J f.val
  | .lstore f => tq_stl nL lv st I J f
  | .iinc f _ => tq_inc nL lv st I J f v
  | .iadd => tq_b2 (fun a b => a + b) lv st I J
  | .isub => tq_b2 (fun a b => a - b) lv st I J
  | .imul => tq_b2 (fun a b => a * b) lv st I J
  | .iand => tq_b2 (fun a b => a &&& b) lv st I J
  | .ior => tq_b2 (fun a b => a ||| b) lv st I J
  | .ixor => tq_b2 (fun a b => a ^^^ b) lv st I J
  | .ishl => tq_b2 (fun a b => a <<< (b &&& 31)) lv st I J
  | .ishr => tq_b2 (fun a b => a >>> (b &&& 31)) lv st I J
  | .iushr => tq_b2 tq_ush lv st I J
  | .ineg => tq_neg lv st I J
  | .ladd => tq_l2 (fun a b => a + b) lv st I J
  | .lmul => tq_l2 (fun a b => a * b) lv st I J
  | .i2l => tq_i2l lv st I J
  | .dup => tq_dup lv st I J
  | .dup2 => tq_dup2 lv st I J
  | .pop => tq_pop lv st I J
  | .goto _ => some (lv, st, I, J)
  | .getfield _ => tq_gf1 sh R c j lv st I J
  | .putfield _ => tq_pf1 sh c j lv st I J
  | _ => none
def tq_len (i : Instr) : Nat := match i with
  | .bipush _ => 2
  | .sipush _ => 3
  | .ldc _ => 2
  | .ldc_w _ => 3
  | .iload _ => 2
  | .lload _ => 2
  | .istore _ => 2
  | .lstore _ => 2
  | .iinc _ _ => 3
  | .goto _ => 3
  | .getfield _ => 3
  | .putfield _ => 3
  | _ => 1
def tq_ok1 (own : Nat) (i : Instr) (c j pl : Nat) (v : Int32) : Bool := match i with
  | .iconst m => decide (Int32.ofInt m = v)
  | .bipush m => decide ((Int8.ofInt m).toInt32 = v)
  | .sipush m => decide ((Int16.ofInt m).toInt32 = v)
  | .iinc _ m => decide (Int32.ofInt m = v)
  | .ldc idx => decide ((own, idx, v, pl) ∈ tq_kc)
  | .ldc_w idx => decide ((own, idx, v, pl) ∈ tq_kc)
  | .getfield idx => decide ((own, idx, c, j, pl) ∈ tq_fl) || decide ((own, idx, c, j, pl) ∈ tq_fn)
  | .putfield idx => decide ((own, idx, c, j, pl) ∈ tq_fl) || decide ((own, idx, c, j, pl) ∈ tq_fn)
  | _ => true
def tq_nx (pc : Nat) (i : Instr) : Option Nat := match i with
  | .goto off => if 0 ≤ (pc : Int) + off then some ((pc : Int) + off).toNat else none
  | _ => some (pc + tq_len i)
def tq_bk (own : Nat) (cc : ByteArray) : List tq_E → Nat → Option Nat
  | [], pc => some pc
  | e :: t, pc => match decode cc pc with
    | .ok (i, len) => if i = e.1 ∧ len = tq_len e.1 ∧ tq_ok1 own e.1 e.2.1 e.2.2.1 e.2.2.2.1 e.2.2.2.2 = true then (match tq_nx pc e.1 with | some pc' => tq_bk own cc t pc' | none => none) else none
    | .error _ => none
def tq_px (nL : Nat) (sh : List tq_S) (R : tq_R) : List tq_E → List (Option Value) → List Value → tq_I → Int64 → Option tq_K
  | [], lv, st, I, J => some (lv, st, I, J)
  | e :: t, lv, st, I, J => match tq_st nL sh R e.1 e.2.1 e.2.2.1 e.2.2.2.2 lv st I J with
    | some (lv', st', I', J') => tq_px nL sh R t lv' st' I' J'
    | none => none
section TQ4
variable {g : tq_G} {μ : tq_M} {x : tq_X} {k n pc : Nat} {lv lv' : List (Option Value)} {st st' : List Value} {sh : List tq_S} {R : tq_R} {I I' : tq_I} {J J' : Int64}
theorem tq_kcin {own idx pl : Nat} {v : Int32} (h : (own, idx, v, pl) ∈ tq_kc) : .constant (tq_cn own) idx v ∈ tq_ws := by
  have := List.all_eq_true.mp tq_kc_ok _ h
  exact tq_inW pl (of_decide_eq_true this) rfl
theorem tq_ble {a b : Nat} (h : Nat.ble (a + 1) b = true) : a < b := Nat.le_of_ble_eq_true h
set_option maxHeartbeats 4000000 in
theorem EV_st (C : tq_C g μ x) {own : Nat} (hown : tq_cn own = μ.1.cls) {i : Instr} {c j pl pc' : Nat} {v : Int32} (hd : decode μ.2.1 pc = .ok (i, tq_len i)) (hok : tq_ok1 own i c j pl v = true) (hn : tq_nx pc i = some pc') (hs : tq_st μ.2.2.1 sh R i c j v lv st I J = some (lv', st', I', J')) (kk : EV g μ x k n pc' lv' st' sh R I' J') : EV g μ x k n pc lv st sh R I J := by
  cases i with
  | iconst m =>
    cases hs; cases hn
    exact fun H locs ls hJ hq hl => lv_iconst C.1 C.2.1 hd (of_decide_eq_true hok) (kk H locs ls hJ hq hl)
  | bipush m =>
    cases hs; cases hn
    exact fun H locs ls hJ hq hl => lv_bipush C.1 C.2.1 hd (of_decide_eq_true hok) (kk H locs ls hJ hq hl)
  | sipush m =>
    cases hs; cases hn
    exact fun H locs ls hJ hq hl => lv_sipush C.1 C.2.1 hd (of_decide_eq_true hok) (kk H locs ls hJ hq hl)
  | ldc m =>
    cases hs; cases hn
    have hw := C.2.2.2.2.2.2.2.1 _ (tq_kcin (of_decide_eq_true hok))
    rw [hown] at hw
    exact fun H locs ls hJ hq hl => lv_ldc C.1 C.2.1 C.2.2.2.2.2.2.1 hw hd (kk H locs ls hJ hq hl)
  | ldc_w m =>
    cases hs; cases hn
    have hw := C.2.2.2.2.2.2.2.1 _ (tq_kcin (of_decide_eq_true hok))
    rw [hown] at hw
    exact fun H locs ls hJ hq hl => lv_ldcw C.1 C.2.1 C.2.2.2.2.2.2.1 hw hd (kk H locs ls hJ hq hl)
  | iload_n f =>
    cases hn
    simp only [tq_st, tq_ld] at hs
    split at hs
    · rename_i w hw
      cases hs
      exact fun H locs ls hJ hq hl => lv_iload_n C.1 C.2.1 hd rfl (hl.2.2 _ _ hw) (kk H locs ls hJ hq hl)
    · cases hs
  | iload f =>
    cases hn
    simp only [tq_st, tq_ld] at hs
    split at hs
    · rename_i w hw
      cases hs
      exact fun H locs ls hJ hq hl => lv_iload C.1 C.2.1 hd (hl.2.2 _ _ hw) (kk H locs ls hJ hq hl)
    · cases hs
  | aload_n f =>
    cases hn
    simp only [tq_st, tq_ldr] at hs
    split at hs
    · rename_i w hw
      cases hs
      exact fun H locs ls hJ hq hl => lv_aload_n C.1 C.2.1 hd rfl (hl.2.2 _ _ hw) (kk H locs ls hJ hq hl)
    · cases hs
  | lload_n f =>
    cases hn
    simp only [tq_st, tq_ldl] at hs
    split at hs
    · rename_i w hw
      cases hs
      exact fun H locs ls hJ hq hl => lv_lload_n C.1 C.2.1 hd rfl (hl.2.2 _ _ hw) (kk H locs ls hJ hq hl)
    · cases hs
  | lload f =>
    cases hn
    simp only [tq_st, tq_ldl] at hs
    split at hs
    · rename_i w hw
      cases hs
      exact fun H locs ls hJ hq hl => lv_lload C.1 C.2.1 hd (hl.2.2 _ _ hw) (kk H locs ls hJ hq hl)
    · cases hs
  | istore_n f =>
    cases hn
    simp only [tq_st, tq_sti] at hs
    split at hs
    · split at hs
      · rename_i h1 h2
        cases hs
        exact EV_istore_n C hd (tq_ble h1) h2 kk
      · cases hs
    · cases hs
  | istore f =>
    cases hn
    simp only [tq_st, tq_sti] at hs
    split at hs
    · split at hs
      · rename_i h1 h2
        cases hs
        exact EV_istore C hd (tq_ble h1) h2 kk
      · cases hs
    · cases hs
  | astore_n f =>
    cases hn
    simp only [tq_st, tq_str] at hs
    split at hs
    · split at hs
      · rename_i h1 h2
        cases hs
        exact EV_astore_n C hd (tq_ble h1) h2 kk
      · cases hs
    · cases hs
  | lstore_n f =>
    cases hn
    simp only [tq_st, tq_stl] at hs
    split at hs
    · split at hs
      · rename_i h1 h2
        cases hs
        exact EV_lstore_n C hd (tq_ble h1) h2 kk
      · cases hs
    · cases hs
  | lstore f =>
    cases hn
    simp only [tq_st, tq_stl] at hs
    split at hs
    · split at hs
      · rename_i h1 h2
        cases hs
        exact EV_lstore C hd (tq_ble h1) h2 kk
      · cases hs
    · cases hs
  | iinc f m =>
    cases hn
    simp only [tq_st, tq_inc] at hs
    split at hs
    · split at hs
      · rename_i hw _ _ h1 h2
        cases hs
        exact EV_iinc C hd hw (of_decide_eq_true hok) (tq_ble h1) h2 kk
      · cases hs
    · cases hs
  | iadd =>
    cases hn
    simp only [tq_st, tq_b2] at hs
    split at hs
    · cases hs
      exact fun H locs ls hJ hq hl => lv_iadd C.1 C.2.1 hd (kk H locs ls hJ hq hl)
    · cases hs
  | isub =>
    cases hn
    simp only [tq_st, tq_b2] at hs
    split at hs
    · cases hs
      exact fun H locs ls hJ hq hl => lv_isub C.1 C.2.1 hd (kk H locs ls hJ hq hl)
    · cases hs
  | imul =>
    cases hn
    simp only [tq_st, tq_b2] at hs
    split at hs
    · cases hs
      exact fun H locs ls hJ hq hl => lv_imul C.1 C.2.1 hd (kk H locs ls hJ hq hl)
    · cases hs
  | iand =>
    cases hn
    simp only [tq_st, tq_b2] at hs
    split at hs
    · cases hs
      exact fun H locs ls hJ hq hl => lv_iand C.1 C.2.1 hd (kk H locs ls hJ hq hl)
    · cases hs
  | ior =>
    cases hn
    simp only [tq_st, tq_b2] at hs
    split at hs
    · cases hs
      exact fun H locs ls hJ hq hl => lv_ior C.1 C.2.1 hd (kk H locs ls hJ hq hl)
    · cases hs
  | ixor =>
    cases hn
    simp only [tq_st, tq_b2] at hs
    split at hs
    · cases hs
      exact fun H locs ls hJ hq hl => lv_ixor C.1 C.2.1 hd (kk H locs ls hJ hq hl)
    · cases hs
  | ishl =>
    cases hn
    simp only [tq_st, tq_b2] at hs
    split at hs
    · cases hs
      exact fun H locs ls hJ hq hl => lv_ishl C.1 C.2.1 hd (kk H locs ls hJ hq hl)
    · cases hs
  | ishr =>
    cases hn
    simp only [tq_st, tq_b2] at hs
    split at hs
    · cases hs
      exact fun H locs ls hJ hq hl => lv_ishr C.1 C.2.1 hd (kk H locs ls hJ hq hl)
    · cases hs
  | iushr =>
    cases hn
    simp only [tq_st, tq_b2] at hs
    split at hs
    · cases hs
      exact fun H locs ls hJ hq hl => lv_iushr C.1 C.2.1 hd rfl (kk H locs ls hJ hq hl)
    · cases hs
  | ineg =>
    cases hn
    simp only [tq_st, tq_neg] at hs
    split at hs
    · cases hs
      exact fun H locs ls hJ hq hl => lv_ineg C.1 C.2.1 hd (kk H locs ls hJ hq hl)
    · cases hs
  | ladd =>
    cases hn
    simp only [tq_st, tq_l2] at hs
    split at hs
    · cases hs
      exact fun H locs ls hJ hq hl => lv_ladd C.1 C.2.1 hd (kk H locs ls hJ hq hl)
    · cases hs
  | lmul =>
    cases hn
    simp only [tq_st, tq_l2] at hs
    split at hs
    · cases hs
      exact fun H locs ls hJ hq hl => lv_lmul C.1 C.2.1 hd (kk H locs ls hJ hq hl)
    · cases hs
  | i2l =>
    cases hn
    simp only [tq_st, tq_i2l] at hs
    split at hs
    · cases hs
      exact fun H locs ls hJ hq hl => lv_i2l C.1 C.2.1 hd rfl (kk H locs ls hJ hq hl)
    · cases hs
  | dup =>
    cases hn
    simp only [tq_st, tq_dup] at hs
    split at hs
    · split at hs
      · rename_i h1
        cases hs
        exact fun H locs ls hJ hq hl => lv_dup C.1 C.2.1 hd (by rw [tq_v_cat]; exact Nat.eq_of_beq_eq_true h1) (kk H locs ls hJ hq hl)
      · cases hs
    · cases hs
  | dup2 =>
    cases hn
    simp only [tq_st, tq_dup2] at hs
    split at hs
    · split at hs
      · rename_i h1 h2
        cases hs
        exact fun H locs ls hJ hq hl => lv_dup2_11 C.1 C.2.1 hd (by rw [tq_v_cat]; exact Nat.eq_of_beq_eq_true h1) (by rw [tq_v_cat]; exact Nat.eq_of_beq_eq_true h2) (kk H locs ls hJ hq hl)
      · cases hs
    · cases hs
  | pop =>
    cases hn
    simp only [tq_st, tq_pop] at hs
    split at hs
    · split at hs
      · rename_i h1
        cases hs
        exact fun H locs ls hJ hq hl => lv_pop C.1 C.2.1 hd (by rw [tq_v_cat]; exact Nat.eq_of_beq_eq_true h1) (kk H locs ls hJ hq hl)
      · cases hs
    · cases hs
  | goto off =>
    cases hs
    simp only [tq_nx] at hn
    split at hn
    · rename_i h0
      cases hn
      exact EV_goto C hd (by omega) kk
    · cases hn
  | getfield idx =>
    cases hn
    simp only [tq_st, tq_gf1] at hs
    split at hs
    · split at hs
      · split at hs
        · rename_i hsh _ h1
          cases hs
          have hc := Nat.eq_of_beq_eq_true h1
          subst hc
          have hf := (Bool.or_eq_true _ _).mp hok
          exact EV_get C hown (hf.imp of_decide_eq_true of_decide_eq_true) hd hsh kk
        · cases hs
      · cases hs
    · cases hs
  | putfield idx =>
    cases hn
    simp only [tq_st, tq_pf1] at hs
    split at hs
    · split at hs
      · split at hs
        · rename_i hsh _ _ h1 h2
          cases hs
          have hc := Nat.eq_of_beq_eq_true h1
          subst hc
          have hf := (Bool.or_eq_true _ _).mp hok
          unfold tq_isI at h2
          split at h2
          · rename_i hty
            have hfin := (Bool.not_eq_true' _).mp h2
            exact EV_puti C hown (hf.imp of_decide_eq_true (fun h => ⟨of_decide_eq_true h, hfin⟩)) hd hsh hfin (Or.inl hty) kk
          · cases h2
        · cases hs
      · cases hs
    · cases hs
  | _ => cases hs
/-- A BLOCK -/
theorem EV_blk (C : tq_C g μ x) {own : Nat} (hown : tq_cn own = μ.1.cls) (is : List tq_E) {pc' : Nat} (hb : tq_bk own μ.2.1 is pc = some pc') (hs : tq_px μ.2.2.1 sh R is lv st I J = some (lv', st', I', J')) (kk : EV g μ x k n pc' lv' st' sh R I' J') : EV g μ x k n pc lv st sh R I J := by
  induction is generalizing pc lv st I J with
  | nil =>
    cases hb; cases hs
    exact kk
  | cons e t ih =>
    simp only [tq_bk] at hb
    split at hb
    · rename_i i len hd
      split at hb
      · rename_i hc
        obtain ⟨rfl, rfl, hok⟩ := hc
        split at hb
        · rename_i p1 hp1
          simp only [tq_px] at hs
          split at hs
          · rename_i lv1 st1 I1 J1 hs1
            exact EV_st C hown hd hok hp1 hs1 (ih hb hs)
          · cases hs
        · cases hb
      · cases hb
    · cases hb
end TQ4
