/-! the layout of the cells, in the order in which they are made -/
def tq_SC : List tq_S := [.inl 11, .inl 8, .inl 3, .inr (0, 121), .inr (0, 100), .inl 6, .inr (0, 6), .inr (0, 6), .inr (0, 6), .inl 10, .inr (0, 6), .inr (0, 96), .inl 1, .inr (0, 100), .inr (0, 700), .inr (0, 100), .inr (0, 100), .inl 2, .inr (2, 5), .inl 8, .inl 3, .inr (0, 121), .inr (0, 100), .inl 6, .inr (0, 6), .inr (0, 6), .inr (0, 6), .inl 10, .inr (0, 6), .inr (0, 96), .inl 1, .inr (0, 100), .inr (0, 700), .inr (0, 100), .inr (0, 100), .inl 8, .inl 3, .inr (0, 121), .inr (0, 100), .inl 6, .inr (0, 6), .inr (0, 6), .inr (0, 6), .inl 10, .inr (0, 6), .inr (0, 96), .inl 1, .inr (0, 100), .inr (0, 700), .inr (0, 100), .inr (0, 100), .inl 8, .inl 3, .inr (0, 121), .inr (0, 100), .inl 6, .inr (0, 6), .inr (0, 6), .inr (0, 6), .inl 10, .inr (0, 6), .inr (0, 96), .inl 1, .inr (0, 100), .inr (0, 700), .inr (0, 100), .inr (0, 100), .inl 8, .inl 3, .inr (0, 121), .inr (0, 100), .inl 6, .inr (0, 6), .inr (0, 6), .inr (0, 6), .inl 10, .inr (0, 6), .inr (0, 96), .inl 1, .inr (0, 100), .inr (0, 700), .inr (0, 100), .inr (0, 100), .inl 8, .inl 3, .inr (0, 121), .inr (0, 100), .inl 6, .inr (0, 6), .inr (0, 6), .inr (0, 6), .inl 10, .inr (0, 6), .inr (0, 96), .inl 1, .inr (0, 100), .inr (0, 700), .inr (0, 100), .inr (0, 100), .inl 5, .inr (0, 121), .inr (0, 121), .inl 7, .inr (0, 4), .inr (0, 4), .inr (0, 4), .inr (0, 7), .inl 9, .inr (0, 384), .inr (0, 384), .inr (0, 384), .inl 0, .inr (0, 150), .inl 0, .inr (0, 150), .inl 4, .inr (0, 121)]
def tq_SR : List tq_S := [.inl 12, .inr (0, 8058), .inr (0, 150), .inr (0, 150), .inr (1, 121), .inr (0, 8), .inr (0, 8), .inr (0, 5), .inr (0, 4), .inr (0, 4), .inr (0, 16), .inr (0, 800), .inr (0, 800), .inr (0, 121)]
def tq_rt : List (List (Option Nat)) := [[some 1, some 17, some 99, some 102, some 107, some 111, some 113, some 115], [some 2, some 5, some 12], [none, none, some 3, some 4], [], [], [some 6, some 7, some 8, some 9], [], [], [], [some 10, some 11], [], [], [some 13, some 14, some 15, some 16], [], [], [], [], [some 18], [some 19, some 35, some 51, some 67, some 83], [some 20, some 23, some 30], [none, none, some 21, some 22], [], [], [some 24, some 25, some 26, some 27], [], [], [], [some 28, some 29], [], [], [some 31, some 32, some 33, some 34], [], [], [], [], [some 36, some 39, some 46], [none, none, some 37, some 38], [], [], [some 40, some 41, some 42, some 43], [], [], [], [some 44, some 45], [], [], [some 47, some 48, some 49, some 50], [], [], [], [], [some 52, some 55, some 62], [none, none, some 53, some 54], [], [], [some 56, some 57, some 58, some 59], [], [], [], [some 60, some 61], [], [], [some 63, some 64, some 65, some 66], [], [], [], [], [some 68, some 71, some 78], [none, none, some 69, some 70], [], [], [some 72, some 73, some 74, some 75], [], [], [], [some 76, some 77], [], [], [some 79, some 80, some 81, some 82], [], [], [], [], [some 84, some 87, some 94], [none, none, some 85, some 86], [], [], [some 88, some 89, some 90, some 91], [], [], [], [some 92, some 93], [], [], [some 95, some 96, some 97, some 98], [], [], [], [], [some 100, some 101], [], [], [some 103, some 104, some 105, none, some 106], [], [], [], [], [some 108, some 109, some 110], [], [], [], [some 112], [], [some 114], [], [some 116], [], [some 118, none, some 119, none, some 120, none, some 121, some 122, some 123, some 124, none, some 125, some 126, none, some 127, none, some 128, some 129, none, none, some 130, none, none, none, none, none], [], [], [], [], [], [], [], [], [], [], [], [], []]
def tq_RR : tq_R := fun a k => ((tq_rt[a]?).getD [])[k]?.getD none
/-! numbers -/
theorem tq_mul (a b : Nat) : nI a * nI b = nI (a * b) := by
  unfold nI
  exact (Int32.ofNat_mul a b).symm
theorem tq_sub_nI {a b : Nat} (h : b ≤ a) : nI a - nI b = nI (a - b) := by
  have e : nI a = nI (a - b) + nI b := by rw [nI_add, Nat.sub_add_cancel h]
  rw [e, Int32.add_sub_cancel]
theorem tq_toI {i : Int32} (j : Nat) (h : i = nI j) (hj : j < 2 ^ 31) : i.toInt = (j : Int) := by rw [h]; exact nI_toInt hj
theorem tq_eqI {a : Int32} {j : Nat} (h : a.toInt = (j : Int)) (hj : j < 2 ^ 31) : a = nI j := Int32.toInt_inj.mp (by rw [h, nI_toInt hj])
theorem tq_div_nI {a b : Nat} (ha : a < 2 ^ 31) (hb : b < 2 ^ 31) : nI a / nI b = nI (a / b) := by
  refine tq_eqI ?_ (Nat.lt_of_le_of_lt (Nat.div_le_self a b) ha)
  rw [Int32.toInt_div_of_ne_left, nI_toInt ha, nI_toInt hb]
  · rw [← Int.ofNat_tdiv]
  · intro h
    have := congrArg Int32.toInt h
    rw [nI_toInt ha] at this
    have e : (Int32.minValue).toInt = -2147483648 := by decide
    omega
theorem tq_rem_nI {a b : Nat} (ha : a < 2 ^ 31) (hb : b < 2 ^ 31) : tq_rem (nI a) (nI b) = nI (a % b) := by
  unfold tq_rem
  have h := Nat.div_add_mod a b
  have hm : b * (a / b) = a / b * b := Nat.mul_comm _ _
  rw [tq_div_nI ha hb, tq_mul, tq_sub_nI (by omega)]
  congr 1
  omega
/-- a truth as an int -/
def tq_b (p : Prop) [Decidable p] : Int32 := if p then 1 else 0
theorem tq_b0 {p : Prop} [Decidable p] : tq_b p = 0 ↔ ¬ p := by
  unfold tq_b
  by_cases h : p <;> simp [h]
theorem tq_b1 {p : Prop} [Decidable p] : tq_b p = 1 ↔ p := by
  unfold tq_b
  by_cases h : p <;> simp [h]
theorem tq_b01 {p : Prop} [Decidable p] : tq_b p = 0 ∨ tq_b p = 1 := by
  unfold tq_b
  by_cases h : p <;> simp [h]
theorem tq_bt {p : Prop} [Decidable p] (h : p) : tq_b p = 1 := if_pos h
theorem tq_bf {p : Prop} [Decidable p] (h : ¬ p) : tq_b p = 0 := if_neg h
/-! contracts that say the answer and the stores outright -/
def tq_ret (sh : List tq_S) (R : tq_R) (r : Option Value) (I : tq_I) (J : Int64) : tq_Q := fun r' sh' R' I' J' => r' = r ∧ sh' = sh ∧ R' = R ∧ I' = I ∧ J' = J
section TQ7
variable {g : tq_G} {μ : tq_M} {x : tq_X} {k n pc : Nat} {lv : List (Option Value)} {st : List Value} {sh : List tq_S} {R : tq_R} {I I' : tq_I} {J J' : Int64}
theorem EV_cS (C : tq_C g μ x) {d mc0 ms0 : Nat} (hR : tq_ht x d mc0 ms0) {μ' : tq_M} {own idx N d' : Nat} {av rest : List Value} {r : Option Value} (hown : tq_cn own = μ.1.cls) (hl : tq_lk own idx μ'.1) (hm : tq_mok μ' N) (hs : tq_stat μ') (ct : CT g μ' d' 0 0 av sh R I J (tq_ret sh R r I' J')) (hd : decode μ.2.1 pc = .ok (.invokestatic idx, 3)) (hN : av.length = N) (hh : d' + 1 ≤ d) (hw : (rest.map fun v => v.category).sum ≤ 8)
    {st0 : List Value} (hst : st0 = av.reverse ++ rest) (hc : k ≤ mc0 ∧ n ≤ ms0) (kk : EV g μ x k n (pc + 3) lv (r.toList ++ rest) sh R I' J') : EV g μ x k n pc lv st0 sh R I J :=
  EV_callS C hR hown hl hm hs ct hd hN hh hw hc hst (fun r1 sh1 R1 I1 J1 h => by obtain ⟨rfl, rfl, rfl, rfl, rfl⟩ := h; exact kk)
theorem EV_cV (C : tq_C g μ x) {d mc0 ms0 : Nat} (hR : tq_ht x d mc0 ms0) {μ' : tq_M} {own idx N d' b cb : Nat} {av rest : List Value} {r : Option Value} (hown : tq_cn own = μ.1.cls) (hl : tq_lk own idx μ'.1) (hm : tq_mok μ' N) (hs : tq_inst μ') (ct : CT g μ' d' 0 0 (.ref b :: av) sh R I J (tq_ret sh R r I' J')) (hb : sh[b]? = some (.inl cb)) (hcb : (tq_cl[cb]?).map (fun q => q.1) = some μ'.1.cls) (hd : decode μ.2.1 pc = .ok (.invokevirtual idx, 3)) (hN : av.length = N) (hh : d' + 1 ≤ d) (hw : (rest.map fun v => v.category).sum ≤ 8)
    {st0 : List Value} (hst : st0 = av.reverse ++ .ref b :: rest) (hc : k ≤ mc0 ∧ n ≤ ms0) (kk : EV g μ x k n (pc + 3) lv (r.toList ++ rest) sh R I' J') : EV g μ x k n pc lv st0 sh R I J :=
  EV_callV C hR hown hl hm hs ct hb hcb hd hN hh hw hc hst (fun r1 sh1 R1 I1 J1 h => by obtain ⟨rfl, rfl, rfl, rfl, rfl⟩ := h; exact kk)
end TQ7
theorem CT.ret {g : tq_G} {μ : tq_M} {d N : Nat} {av : List Value} {sh : List tq_S} {R : tq_R} {I I' : tq_I} {J J' : Int64} {r : Option Value} (hm : tq_mok μ N) (hl : (tq_en av).length ≤ μ.2.2.1)
    (body : ∀ x : tq_X, tq_C g μ x → tq_ht x d 0 0 → tq_end g x (tq_ret sh R r I' J') 0 0 → EV g μ x 0 0 0 (tq_en av) [] sh R I J) : CT g μ d 0 0 av sh R I J (tq_ret sh R r I' J') :=
  CT.of hm hl (fun x C hR hZ => body x C (tq_ht.of hR) hZ)
/-- the locals, lengthened -/
theorem EV_lv {g : tq_G} {μ : tq_M} {x : tq_X} {k n pc : Nat} {lv lv' : List (Option Value)} {st : List Value} {sh : List tq_S} {R : tq_R} {I : tq_I} {J : Int64} (h : ∀ (i : Nat) (v : Value), lv'[i]? = some (some v) → lv[i]? = some (some v)) (kk : EV g μ x k n pc lv' st sh R I J) : EV g μ x k n pc lv st sh R I J :=
  fun H locs ls hJ hq hl => kk H locs ls hJ hq ⟨hl.1, hl.2.1, fun i v hv => hl.2.2 i v (h i v hv)⟩
theorem tq_pad (lv : List (Option Value)) (n : Nat) : ∀ (i : Nat) (v : Value), (lv ++ List.replicate n none)[i]? = some (some v) → lv[i]? = some (some v) := by
  intro i v h
  by_cases hl : i < lv.length
  · rwa [List.getElem?_append_left hl] at h
  · rw [List.getElem?_append_right (by omega), List.getElem?_replicate] at h
    split at h <;> cases h
theorem tq_r0 {p : Prop} [Decidable p] (h : ¬ p) : some (Value.int (nI 0)) = some (.int (tq_b p)) := by rw [tq_bf h]; rfl
theorem tq_r1 {p : Prop} [Decidable p] (h : p) : some (Value.int (nI 1)) = some (.int (tq_b p)) := by rw [tq_bt h]; rfl
theorem tq_some {a b : Int32} (h : a = b) : some (Value.int a) = some (.int b) := by rw [h]
theorem EV_en {g : tq_G} {μ : tq_M} {x : tq_X} {k n pc : Nat} {lv lv' : List (Option Value)} {st : List Value} {sh : List tq_S} {R : tq_R} {I : tq_I} {J : Int64} (z : Nat) (h : lv ++ List.replicate z none = lv') (kk : EV g μ x k n pc lv' st sh R I J) : EV g μ x k n pc lv st sh R I J := by
  subst h
  exact EV_lv (tq_pad lv z) kk
/-- n rounds of a loop, from i on -/
def tq_it {α : Type} (f : Nat → α → α) : Nat → Nat → α → α
  | 0, _, a => a
  | n + 1, i, a => tq_it f n (i + 1) (f i a)
theorem tq_its {α : Type} (f : Nat → α → α) (n i : Nat) (a : α) : tq_it f (n + 1) i a = tq_it f n (i + 1) (f i a) := rfl
theorem tq_somel {a b : Int64} (h : a = b) : some (Value.long a) = some (.long b) := by rw [h]
/-- fewer locals known -/
def tq_le : List (Option Value) → List (Option Value) → Prop
  | [], _ => True
  | none :: t, _ :: u => tq_le t u
  | none :: t, [] => tq_le t []
  | some v :: t, some w :: u => v = w ∧ tq_le t u
  | some _ :: _, none :: _ => False
  | some _ :: _, [] => False
theorem tq_le_get : ∀ (l u : List (Option Value)), tq_le l u → ∀ (i : Nat) (v : Value), l[i]? = some (some v) → u[i]? = some (some v)
  | [], _, _, i, v, h => by simp at h
  | none :: t, _ :: u, hl, i, v, h => by
    match i, h with
    | 0, h => simp at h
    | i + 1, h => exact tq_le_get t u hl i v (by simpa using h)
  | none :: t, [], hl, i, v, h => by
    match i, h with
    | 0, h => simp at h
    | i + 1, h => exact absurd (tq_le_get t [] hl i v (by simpa using h)) (by simp)
  | some w :: t, some z :: u, hl, i, v, h => by
    obtain ⟨rfl, hl⟩ := hl
    match i, h with
    | 0, h => simpa using h
    | i + 1, h => exact tq_le_get t u hl i v (by simpa using h)
theorem EV_fg {g : tq_G} {μ : tq_M} {x : tq_X} {k n pc : Nat} {lv lv' : List (Option Value)} {st : List Value} {sh : List tq_S} {R : tq_R} {I : tq_I} {J : Int64} (h : tq_le lv' lv) (kk : EV g μ x k n pc lv' st sh R I J) : EV g μ x k n pc lv st sh R I J := EV_lv (tq_le_get lv' lv h) kk
/-- an int as a natural -/
def tq_N (x : Int32) : Nat := x.toInt.toNat
theorem tq_N_nI {n : Nat} (h : n < 2 ^ 31) : tq_N (nI n) = n := by
  unfold tq_N
  rw [nI_toInt h]
  rfl
theorem tq_nIN {x : Int32} (h : 0 ≤ x.toInt) : x = nI (tq_N x) := by
  have h2 : x.toInt < 2 ^ 31 := Int32.toInt_lt x
  exact tq_eqI (by unfold tq_N; omega) (by unfold tq_N; omega)
theorem tq_ix {x y : Int32} (m : Nat) (hx : 0 ≤ x.toInt) (hx2 : x.toInt ≤ 1000) (hy : 0 ≤ y.toInt) (hy2 : y.toInt ≤ 1000) (hm : m ≤ 1000) : (y * nI m + x).toInt = ((tq_N y * m + tq_N x : Nat) : Int) := by
  have e1 := tq_nIN hx
  have e2 := tq_nIN hy
  have h1 : tq_N x ≤ 1000 := by unfold tq_N; omega
  have h2 : tq_N y ≤ 1000 := by unfold tq_N; omega
  have h3 : tq_N y * m ≤ 1000 * 1000 := Nat.mul_le_mul h2 hm
  have e : y * nI m + x = nI (tq_N y * m + tq_N x) := by
    conv => lhs; rw [e1, e2, tq_mul, nI_add]
  rw [e]
  exact nI_toInt (by omega)
theorem tq_inc1 (a : Nat) : nI a - nI 1 + nI 1 = nI (a + 1) - nI 1 := by
  rw [← nI_add a 1, Int32.sub_add_cancel, Int32.add_sub_cancel]
theorem tq_dec1 (a : Nat) : nI a = nI (a + 1) - nI 1 := by
  rw [← nI_add a 1, Int32.add_sub_cancel]
theorem tq_m1 {a : Nat} (h : a < 2 ^ 31) : (nI a - nI 1).toInt = (a : Int) - 1 := by
  match a, h with
  | 0, _ => decide
  | a + 1, h =>
    rw [← tq_dec1, nI_toInt (by omega)]
    omega
theorem tq_itP {α : Type} {f : Nat → α → α} (P : α → Prop) (h : ∀ i a, P a → P (f i a)) : ∀ (n i : Nat) (a : α), P a → P (tq_it f n i a)
  | 0, _, _, ha => ha
  | n + 1, i, a, ha => tq_itP P h n (i + 1) (f i a) (h i a ha)
/-- a loop leaves a cell as it was -/
theorem tq_itF {f : Nat → tq_I → tq_I} {c : Nat} (h : ∀ i a j, f i a c j = a c j) (n i : Nat) (a : tq_I) (j : Nat) : tq_it f n i a c j = a c j := tq_itP (fun b => b c j = a c j) (fun i b hb => by rw [h]; exact hb) n i a rfl
theorem tq_itF2 {α : Type} {f : Nat → α × tq_I → α × tq_I} {c : Nat} (h : ∀ i a j, (f i a).2 c j = a.2 c j) (n i : Nat) (a : α × tq_I) (j : Nat) : (tq_it f n i a).2 c j = a.2 c j := tq_itP (fun b => b.2 c j = a.2 c j) (fun i b hb => by rw [h]; exact hb) n i a rfl
theorem EV_ste {g : tq_G} {μ : tq_M} {x : tq_X} {k n pc : Nat} {lv : List (Option Value)} {st st' : List Value} {sh : List tq_S} {R : tq_R} {I : tq_I} {J : Int64} (h : st = st') (kk : EV g μ x k n pc lv st' sh R I J) : EV g μ x k n pc lv st sh R I J := h ▸ kk
theorem EV_lve {g : tq_G} {μ : tq_M} {x : tq_X} {k n pc : Nat} {lv lv' : List (Option Value)} {st : List Value} {sh : List tq_S} {R : tq_R} {I : tq_I} {J : Int64} (h : lv = lv') (kk : EV g μ x k n pc lv' st sh R I J) : EV g μ x k n pc lv st sh R I J := h ▸ kk
/-- a search: the first round that answers, else d -/
def tq_sr (f : Nat → Option Int32) : Nat → Nat → Int32 → Int32
  | 0, _, d => d
  | n + 1, i, d => match f i with
    | some v => v
    | none => tq_sr f n (i + 1) d
theorem tq_sr_some {f : Nat → Option Int32} {n i : Nat} {d v : Int32} (h : f i = some v) : tq_sr f (n + 1) i d = v := by simp only [tq_sr, h]
theorem tq_sr_none {f : Nat → Option Int32} {n i : Nat} {d : Int32} (h : f i = none) : tq_sr f (n + 1) i d = tq_sr f n (i + 1) d := by simp only [tq_sr, h]
theorem tq_dn {a : Nat} (h : 1 ≤ a) : nI a + (-1) = nI (a - 1) := by
  have e : (-1 : Int32) = - nI 1 := by decide
  rw [e, ← Int32.sub_eq_add_neg, tq_sub_nI h]
