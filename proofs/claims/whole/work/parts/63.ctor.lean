/-! CONSTRUCTORS: the cells are made in the order of the layout -/
abbrev tx_A : List tq_S := tq_SC ++ tq_SR
theorem tx_Al : tx_A.length = 131 := by decide +kernel
theorem tx_get {n k : Nat} {s : tq_S} (h : k < n) (hk : tx_A[k]? = some s) : (tx_A.take n)[k]? = some s := by
  rw [List.getElem?_take, if_pos h]; exact hk
theorem tx_len {n : Nat} (h : n ≤ 131) : (tx_A.take n).length = n := by
  rw [List.length_take, tx_Al]; omega
theorem tx_snoc {n : Nat} {s : tq_S} (hk : tx_A[n]? = some s) : tx_A.take n ++ [s] = tx_A.take (n + 1) := by
  rw [List.take_succ, hk]; rfl
theorem tx_nil {a : Nat} (h : tq_rt[a]? = some []) (j : Nat) : tq_RR a j = none := by
  unfold tq_RR
  rw [h]
  simp
theorem tx_end {a f : Nat} (h : ((tq_rt[a]?).getD []).length ≤ f) (j : Nat) (hj : f ≤ j) : tq_RR a j = none := by
  unfold tq_RR
  rw [List.getElem?_eq_none (by omega)]
  rfl
section TX1
variable {g : tq_G} {μ : tq_M} {x : tq_X} {k n pc : Nat} {lv : List (Option Value)} {st : List Value} {sh : List tq_S} {R R' : tq_R} {I I' : tq_I} {J : Int64}
theorem EV_cg (h : ∀ a, a < sh.length → ∀ j, R' a j = R a j ∧ I' a j = I a j) (kk : EV g μ x k n pc lv st sh R' I' J) : EV g μ x k n pc lv st sh R I J := fun H locs ls hJ hq hl =>
  kk H locs ls ⟨hJ.1, hJ.2.1, fun a s hs => tq_at.cong (fun j => (h a (List.getElem?_eq_some_iff.mp hs).1 j).2) (fun j => (h a (List.getElem?_eq_some_iff.mp hs).1 j).1) (fun _ _ _ _ => rfl) (hJ.2.2.1 a s hs), hJ.2.2.2⟩ hq hl
theorem EV_dup0 (C : tq_C g μ x) {a : Nat} (hd : decode μ.2.1 pc = .ok (.dup, 1)) (kk : EV g μ x k n (pc + 1) lv (.ref a :: .ref a :: st) sh R I J) : EV g μ x k n pc lv (.ref a :: st) sh R I J := fun H locs ls hJ hq hl => lv_dup C.1 C.2.1 hd rfl (kk H locs ls hJ hq hl)
/-- the object b under way: N cells stand, its fields below f are set -/
def tx_K (b N f : Nat) (R0 : tq_R) (I0 TI : tq_I) (R : tq_R) (I : tq_I) : Prop := (∀ a j, a < b → R a j = R0 a j ∧ I a j = I0 a j) ∧ (∀ j, R b j = if j < f then tq_RR b j else none) ∧ (∀ j, I b j = 0) ∧ ∀ a j, b < a → a < N → R a j = tq_RR a j ∧ I a j = TI a j
/-- what a constructor leaves -/
def tx_Q (b e : Nat) (R0 : tq_R) (I0 TI : tq_I) : tq_Q := fun r sh' R' I' J' => r = none ∧ sh' = tx_A.take e ∧ J' = 0 ∧ (∀ a j, a < b → R' a j = R0 a j ∧ I' a j = I0 a j) ∧ ∀ a j, b ≤ a → a < e → R' a j = tq_RR a j ∧ I' a j = TI a j
theorem tx_K.q {b e f : Nat} {R0 : tq_R} {I0 TI : tq_I} (K : tx_K b e f R0 I0 TI R I) (hf : ((tq_rt[b]?).getD []).length ≤ f) (hT : ∀ j, TI b j = 0) : tx_Q b e R0 I0 TI none (tx_A.take e) R I 0 := by
  obtain ⟨k1, k2, k3, k4⟩ := K
  refine ⟨rfl, rfl, rfl, k1, fun a j h1 h2 => ?_⟩
  by_cases e1 : a = b
  · subst e1
    refine ⟨?_, by rw [k3, hT]⟩
    rw [k2]
    by_cases hj : j < f
    · rw [if_pos hj]
    · rw [if_neg hj, tx_end hf j (by omega)]
  · exact k4 a j (by omega) h2
theorem tx_K.put {b N f j : Nat} {R0 : tq_R} {I0 TI : tq_I} (K : tx_K b N f R0 I0 TI R I) (hbN : b < N) (hfj : f ≤ j) (hsk : ∀ i, f ≤ i → i < j → tq_RR b i = none) (hRb : tq_RR b j = some N) {e : Nat} {R1 : tq_R} {I1 : tq_I} (h1 : ∀ a i, a < N → R1 a i = R a i ∧ I1 a i = I a i) (h2 : ∀ a i, N ≤ a → a < e → R1 a i = tq_RR a i ∧ I1 a i = TI a i) : tx_K b e (j + 1) R0 I0 TI (tq_uR R1 b j (some N)) I1 := by
  obtain ⟨k1, k2, k3, k4⟩ := K
  have uo : ∀ a i, a ≠ b → tq_uR R1 b j (some N) a i = R1 a i := fun a i ha => by unfold tq_uR; rw [if_neg (fun z => ha z.1)]
  refine ⟨fun a i ha => ?_, fun i => ?_, fun i => ?_, fun a i ha ha2 => ?_⟩
  · rw [uo a i (by omega), (h1 a i (by omega)).1, (h1 a i (by omega)).2]; exact k1 a i ha
  · by_cases e1 : i = j
    · rw [e1, if_pos (by omega), hRb]
      unfold tq_uR
      rw [if_pos ⟨rfl, rfl⟩]
    · have : tq_uR R1 b j (some N) b i = R1 b i := by unfold tq_uR; rw [if_neg (fun z => e1 z.2)]
      rw [this, (h1 b i hbN).1, k2]
      by_cases c1 : i < f
      · rw [if_pos c1, if_pos (by omega)]
      · rw [if_neg c1]
        by_cases c2 : i < j + 1
        · rw [if_pos c2, hsk i (by omega) (by omega)]
        · rw [if_neg c2]
  · rw [(h1 b i hbN).2]; exact k3 i
  · rw [uo a i (by omega)]
    by_cases c : a < N
    · rw [(h1 a i c).1, (h1 a i c).2]; exact k4 a i ha c
    · exact h2 a i (by omega) ha2
theorem EV_fA (C : tq_C g μ x) {d mc0 ms0 : Nat} (hR : tq_ht x d mc0 ms0) {own idx c j pl b m N f : Nat} {v : Int32} {R0 : tq_R} {I0 TI : tq_I} (K : tx_K b N f R0 I0 TI R I) (hv : v.toInt = (m : Int)) (hm : m ≤ 100000) (hN : N < 131) (hbN : b < N) (hs : tx_A[N]? = some (.inr (0, m))) (hb : tx_A[b]? = some (.inl c)) (hown : tq_cn own = μ.1.cls) (hf : (own, idx, c, j, pl) ∈ tq_fl) (hd1 : decode μ.2.1 pc = .ok (.newarray .int, 2)) (hd2 : decode μ.2.1 (pc + 2) = .ok (.putfield idx, 3))
    (hfin : (tq_T c j).2.2.2 = false ∨ (μ.1.name = "<init>" ∧ (tq_T c j).1 = μ.1.cls)) (hty : (∃ t, tq_ty c j = .array t) ∨ ∃ t, tq_ty c j = .object t) (h1 : k + 1 ≤ mc0) (h2 : n + m ≤ ms0) (hfj : f ≤ j) (hsk : ∀ i, f ≤ i → i < j → tq_RR b i = none) (hRb : tq_RR b j = some N) (hRN : tq_rt[N]? = some []) (hTI : ∀ i, TI N i = 0)
    (kk : ∀ R' I', tx_K b (N + 1) (j + 1) R0 I0 TI R' I' → EV g μ x (k + 1) (n + m) (pc + 5) lv st (tx_A.take (N + 1)) R' I' 0) : EV g μ x k n pc lv (.int v :: .ref b :: st) (tx_A.take N) R I 0 := by
  refine EV_newi C hR hv hm (by rw [tx_len (by omega)]; omega) hd1 h1 h2 ?_
  rw [tx_len (by omega), tx_snoc hs]
  refine EV_putr C hown hf hd2 (tx_get (by omega) hb) hfin hty ?_
  refine kk _ _ (K.put hbN hfj hsk hRb (fun a i ha => ?_) (fun a i ha ha2 => ?_))
  · have : a ≠ N := by omega
    simp [tq_zR, tq_z, this]
  · have : a = N := by omega
    subst this
    rw [tx_nil hRN, hTI]
    simp [tq_zR, tq_z]
theorem EV_fO (C : tq_C g μ x) {d mc0 ms0 : Nat} (hR : tq_ht x d mc0 ms0) {μ' : tq_M} {own idxK plK idxI idx c c' j pl b N e f d' mc ms : Nat} {R0 : tq_R} {I0 TI : tq_I} (K : tx_K b N f R0 I0 TI R I) (hN : N < 131) (hbN : b < N) (hs : tx_A[N]? = some (.inl c')) (hc' : c' < 13) (hb : tx_A[b]? = some (.inl c)) (hown : tq_cn own = μ.1.cls) (hkk : (own, idxK, c', plK) ∈ tq_kk) (hl : tq_lk own idxI μ'.1) (hmk : tq_mok μ' 0) (hct : tq_ctor μ') (hvoid : μ'.2.2.2 = none) (ct : ∀ R I, (∀ j, R N j = none ∧ I N j = 0) → CT g μ' d' mc ms [.ref N] (tx_A.take (N + 1)) R I 0 (tx_Q N e R I TI)) (hf : (own, idx, c, j, pl) ∈ tq_fl) (hd1 : decode μ.2.1 pc = .ok (.new idxK, 3)) (hd2 : decode μ.2.1 (pc + 3) = .ok (.dup, 1)) (hd3 : decode μ.2.1 (pc + 4) = .ok (.invokespecial idxI, 3)) (hd4 : decode μ.2.1 (pc + 7) = .ok (.putfield idx, 3))
    (hfin : (tq_T c j).2.2.2 = false ∨ (μ.1.name = "<init>" ∧ (tq_T c j).1 = μ.1.cls)) (hty : (∃ t, tq_ty c j = .array t) ∨ ∃ t, tq_ty c j = .object t) (hh : d' + 1 ≤ d) (hw : ((.ref N :: .ref b :: st : List Value).map fun v => v.category).sum ≤ 8) (h1 : k + 1 + mc ≤ mc0) (h2 : n + tq_nf c' + ms ≤ ms0) (hfj : f ≤ j) (hsk : ∀ i, f ≤ i → i < j → tq_RR b i = none) (hRb : tq_RR b j = some N) (hNe : N < e) (he : e ≤ 131)
    (kk : ∀ R' I', tx_K b e (j + 1) R0 I0 TI R' I' → EV g μ x (k + 1 + mc) (n + tq_nf c' + ms) (pc + 10) lv st (tx_A.take e) R' I' 0) : EV g μ x k n pc lv (.ref b :: st) (tx_A.take N) R I 0 := by
  refine EV_new C hR hown hkk hc' rfl (by rw [tx_len (by omega)]; omega) hd1 (by omega) (by omega) ?_
  rw [tx_len (by omega), tx_snoc hs]
  refine EV_dup0 C hd2 ?_
  refine EV_callI (rest := .ref N :: .ref b :: st) (av := []) (b := N) C hR hown hl hmk hct hvoid (ct _ _ (fun i => by simp [tq_zR, tq_z])) hd3 rfl hh hw ⟨h1, h2⟩ rfl ?_
  rintro r sh' R' I' J' ⟨rfl, rfl, rfl, q4, q5⟩
  refine EV_putr C hown hf hd4 (tx_get (by omega) hb) hfin hty ?_
  refine kk _ _ (K.put hbN hfj hsk hRb (fun a i ha => ?_) q5)
  have : a ≠ N := by omega
  have := q4 a i ha
  rw [this.1, this.2]
  simp_all [tq_zR, tq_z]
end TX1
/-- the ints that stand when all constructors have run, before the first map -/
def tx_off (a : Nat) : Nat := if 1 ≤ a ∧ a ≤ 16 then a - 1 else if 19 ≤ a ∧ a ≤ 98 then (a - 19) % 16 else 99
def tx_I0 : tq_I := fun a j => if (tx_off a = 5 ∨ tx_off a = 6) ∧ j < 6 then nI j else if tx_off a = 7 ∧ j < 6 then nI 1 else if tx_off a = 9 ∧ j < 6 then nI 65534 else if tx_off a = 10 ∧ j < 96 ∧ j % 16 ≠ 0 then (nI 1) <<< ((nI (j % 16)) &&& 31) else 0
theorem tx_I00 {a : Nat} (h : tx_off a ≠ 5 ∧ tx_off a ≠ 6 ∧ tx_off a ≠ 7 ∧ tx_off a ≠ 9 ∧ tx_off a ≠ 10) (j : Nat) : tx_I0 a j = 0 := by
  obtain ⟨h1, h2, h3, h4, h5⟩ := h
  unfold tx_I0
  rw [if_neg (fun z => z.1.elim h1 h2), if_neg (fun z => h3 z.1), if_neg (fun z => h4 z.1), if_neg (fun z => h5 z.1)]
def tx_bs : List Nat := [1, 19, 35, 51, 67, 83]
