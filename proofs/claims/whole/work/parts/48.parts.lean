/-! the parts of a mask: the reference's search, as a list -/
def tw_orl : List Nat → Nat
  | [] => 0
  | p :: r => tw_orl r ||| p
def tw_stp (b mk q : Nat) (st : List Nat) : List Nat ⊕ Option (List Nat) := match st with
  | [] => .inr none
  | p :: r => if mk < p + 1 then .inl r else if ((p + 1) &&& mk) = p + 1 ∧ Nat.testBit (tq_dr b) (p + 1) = true then (if r.length + 1 = q ∧ tw_orl ((p + 1) :: r) = mk then .inr (some ((p + 1) :: r)) else if r.length + 1 < q then .inl ((p + 1) :: (p + 1) :: r) else .inl ((p + 1) :: r)) else .inl ((p + 1) :: r)
def tw_run (b mk q : Nat) : Nat → List Nat → Option (Option (List Nat))
  | 0, _ => none
  | n + 1, st => match tw_stp b mk q st with
    | .inl s => tw_run b mk q n s
    | .inr r => some r
theorem tw_run_mono {b mk q : Nat} {r : Option (List Nat)} : ∀ (n m : Nat) (st : List Nat), tw_run b mk q n st = some r → tw_run b mk q (n + m) st = some r
  | 0, _, _, h => by cases h
  | n + 1, m, st, h => by
    rw [show n + 1 + m = n + m + 1 by omega]
    unfold tw_run at h ⊢
    cases hs : tw_stp b mk q st with
    | inl s => rw [hs] at h; exact tw_run_mono n m s h
    | inr s => rw [hs] at h; exact h
/-- what the search with q masks finds, the last one first -/
def tw_mk (b mk q : Nat) : Option (List Nat) := match tw_run b mk q 1500 [0] with
  | some r => r
  | none => none
def tw_fnd (b mk : Nat) : List Nat := match tw_mk b mk 1 with
  | some l => l.reverse
  | none => match tw_mk b mk 2 with
    | some l => l.reverse
    | none => match tw_mk b mk 3 with
      | some l => l.reverse
      | none => match tw_mk b mk 4 with
        | some l => l.reverse
        | none => [15]
set_option maxRecDepth 100000 in
theorem tw_run_end : ∀ b, b < 32 → ∀ m, m < 15 → ∀ q, q < 4 → (tw_run b (m + 1) (q + 1) 1500 [0]).isSome = true := by decide +kernel
/-- the list's facts: its masks are drawn, it is the class's set -/
def tw_sum (l : List Nat) : Nat := l.foldl (fun a p => a + 2 ^ p) 0
set_option maxRecDepth 100000 in
theorem tw_fnd_ok : ∀ b, b < 32 → ∀ m, m < 15 → tw_sum (tw_fnd b (m + 1)) = tq_ft b (m + 1) ∧ 1 ≤ (tw_fnd b (m + 1)).length ∧ (tw_fnd b (m + 1)).length ≤ 4 ∧ (tw_fnd b (m + 1)).all (fun p => decide (1 ≤ p ∧ p < 16) && Nat.testBit (tq_dr b) p) = true ∧ (List.range 16).filter (fun p => Nat.testBit (tq_ft b (m + 1)) p) = tw_fnd b (m + 1) ∧ tq_ft b (m + 1) < 65536 := by decide +kernel
theorem tw_drbt : ∀ b, b < 32 → ∀ m, m < 16 → bt (nI (tq_dr b)) m = Nat.testBit (tq_dr b) m := by decide +kernel
theorem tw_subm : ∀ p, p < 16 → ∀ m, m < 16 → (((nI p) &&& ((nI m) ^^^ (-1))) = 0 ↔ (p &&& m) = p) := by decide +kernel
theorem tw_orI : ∀ p, p < 16 → ∀ m, m < 16 → nI p ||| nI m = nI (p ||| m) ∧ (p ||| m) < 16 := by decide +kernel
def tw_stk (I : tq_I) : List Nat → Prop
  | [] => True
  | p :: r => I 124 r.length = nI p ∧ tw_stk I r
theorem tw_stk_up {I : tq_I} {k : Nat} {v : Int32} : ∀ (st : List Nat), st.length ≤ k → tw_stk I st → tw_stk (tq_u I 124 k v) st
  | [], _, _ => trivial
  | p :: r, h, hs => by
    simp only [List.length_cons] at h
    exact ⟨by rw [tq_u_slot (by omega)]; exact hs.1, tw_stk_up r (by omega) hs.2⟩
theorem tw_stk_or {I : tq_I} {t mk q : Nat} {v : Int32} : ∀ (st : List Nat), tw_stk I st → (∀ p ∈ st, p < 16) → tq_it (f_mu1 I t mk q v) st.length 0 (nI 0) = nI (tw_orl st) ∧ tw_orl st < 16
  | [], _, _ => ⟨rfl, by decide⟩
  | p :: r, hs, hp => by
    obtain ⟨h1, h2⟩ := tw_stk_or (t := t) (mk := mk) (q := q) (v := v) r hs.2 (fun p h => hp p (List.mem_cons_of_mem _ h))
    have h3 := tw_orI (tw_orl r) h2 p (hp p List.mem_cons_self)
    refine ⟨?_, h3.2⟩
    rw [List.length_cons, tw_ita, h1]
    show nI (tw_orl r) ||| I 124 (0 + r.length) = _
    rw [Nat.zero_add, hs.1]
    exact h3.1
theorem tw_stk_get {I : tq_I} : ∀ (st : List Nat), tw_stk I st → ∀ k, k < st.length → I 124 k = nI (st.reverse.getD k 0)
  | [], _, k, hk => by cases hk
  | p :: r, hs, k, hk => by
    rw [List.reverse_cons]
    simp only [List.length_cons] at hk
    rw [List.getD_eq_getElem?_getD]
    by_cases e : k = r.length
    · subst e
      rw [List.getElem?_append_right (by rw [List.length_reverse]; omega), List.length_reverse, Nat.sub_self]
      exact hs.1
    · rw [List.getElem?_append_left (by rw [List.length_reverse]; omega), ← List.getD_eq_getElem?_getD]
      exact tw_stk_get r hs.2 k (by omega)
theorem tw_len0 : ∀ n, n < 5 → (nI n - nI 1 < 0 ↔ n = 0) := by decide +kernel
theorem tw_len1 : ∀ n, n < 5 → 1 ≤ n → tq_N (nI n - nI 1) = n - 1 ∧ nI n - nI 1 + nI 1 = nI n ∧ nI n - nI 1 + (-1) = nI (n - 1) - nI 1 := by decide +kernel
section TWK
variable {b mk q t : Nat} {s : Int32}
/-- one step -/
theorem tw_mustep (ht : t ≤ 5) (hmk : mk < 16) (hq : q ≤ 4) (hd : ∀ I : tq_I, I 118 (10 + t) = s → ∀ m, 1 ≤ m → m < 16 → (¬ r_X12_wayOf I t (nI m) = -1 ↔ Nat.testBit (tq_dr b) m = true)) {a : Int32 × tq_I} {st : List Nat} (h1 : a.1 = nI st.length - nI 1) (h2 : tw_stk a.2 st) (h3 : st.length ≤ q) (h4 : ∀ p ∈ st, p ≤ mk) (h5 : a.2 118 (10 + t) = s) :
    match tw_stp b mk q st with
    | .inl st' => ∃ a', f_mu2 t mk q a = .inl a' ∧ a'.1 = nI st'.length - nI 1 ∧ tw_stk a'.2 st' ∧ st'.length ≤ q ∧ (∀ p ∈ st', p ≤ mk) ∧ a'.2 118 (10 + t) = s
    | .inr none => f_mu2 t mk q a = .inr (.inr ())
    | .inr (some l) => l.length = q ∧ ∃ I', f_mu2 t mk q a = .inr (.inl (nI 1, I')) ∧ tw_stk I' l := by
  cases st with
  | nil =>
    show f_mu2 t mk q a = .inr (.inr ())
    unfold f_mu2
    rw [if_pos]
    rw [h1]
    exact (tw_len0 _ (by decide)).mpr rfl
  | cons p r =>
    simp only [List.length_cons] at h1 h3
    obtain ⟨e1, e2, e3⟩ := tw_len1 (r.length + 1) (by omega) (by omega)
    rw [← h1] at e1 e2 e3
    rw [Nat.add_sub_cancel] at e1 e3
    have hp := h4 p List.mem_cons_self
    have hr : ∀ z ∈ r, z ≤ mk := fun z hz => h4 z (List.mem_cons_of_mem _ hz)
    have n0 : ¬ a.1 < 0 := fun z => by
      rw [h1] at z
      have := (tw_len0 _ (by omega)).mp z
      omega
    have e4 : a.2 124 r.length + nI 1 = nI (p + 1) := by rw [h2.1, nI_add]
    have k0 : ∀ v, tq_u a.2 124 r.length v 118 (10 + t) = s := fun v => by rw [tq_u_cell (by decide)]; exact h5
    have k1 : tw_stk (tq_u a.2 124 r.length (nI (p + 1))) ((p + 1) :: r) := ⟨tq_u_same, tw_stk_up r (Nat.le_refl _) h2.2⟩
    have hw := hd _ (k0 (nI (p + 1))) (p + 1) (by omega)
    generalize hU : tq_u a.2 124 r.length (nI (p + 1)) = U at *
    have hF : f_mu2 t mk q a = (if nI (p + 1) ≤ nI mk then (if nI (p + 1) &&& (nI mk ^^^ (-1)) = 0 then (if r_X12_wayOf U t (nI (p + 1)) = -1 then .inl (a.1, U) else (if nI (r.length + 1) = nI q then (if tq_it (f_mu1 U t mk q a.1) (r.length + 1) 0 (nI 0) = nI mk then .inr (.inl (nI 1, U)) else (if nI q ≤ nI (r.length + 1) then .inl (a.1, U) else .inl (nI (r.length + 1), tq_u U 124 (r.length + 1) (nI (p + 1))))) else (if nI q ≤ nI (r.length + 1) then .inl (a.1, U) else .inl (nI (r.length + 1), tq_u U 124 (r.length + 1) (nI (p + 1)))))) else .inl (a.1, U)) else .inl (nI r.length - nI 1, U)) := by
      unfold f_mu2
      rw [if_neg n0, e1, e2, e3, e4, tq_u_same, hU]
    have hS : tw_stp b mk q (p :: r) = (if mk < p + 1 then .inl r else if ((p + 1) &&& mk) = p + 1 ∧ Nat.testBit (tq_dr b) (p + 1) = true then (if r.length + 1 = q ∧ tw_orl ((p + 1) :: r) = mk then .inr (some ((p + 1) :: r)) else if r.length + 1 < q then .inl ((p + 1) :: (p + 1) :: r) else .inl ((p + 1) :: r)) else .inl ((p + 1) :: r)) := rfl
    have kU : U 118 (10 + t) = s := by rw [← hU]; exact k0 _
    by_cases c1 : mk < p + 1
    · rw [if_pos c1] at hS
      rw [if_neg (fun z => by rw [nI_leI (by omega) (by omega)] at z; omega)] at hF
      rw [hS]
      exact ⟨_, hF, rfl, k1.2, by omega, hr, kU⟩
    · rw [if_neg c1] at hS
      rw [if_pos ((nI_leI (by omega) (by omega)).mpr (by omega))] at hF
      have hsub := tw_subm (p + 1) (by omega) mk hmk
      have hcons : ∀ z ∈ ((p + 1) :: r), z ≤ mk := fun z hz => by
        rcases List.mem_cons.mp hz with rfl | hz
        · omega
        · exact hr z hz
      by_cases c2 : ((p + 1) &&& mk) = p + 1
      · rw [if_pos (hsub.mpr c2)] at hF
        by_cases c3 : Nat.testBit (tq_dr b) (p + 1) = true
        · rw [if_neg ((hw (by omega)).mpr c3)] at hF
          rw [if_pos ⟨c2, c3⟩] at hS
          obtain ⟨o1, o2⟩ := tw_stk_or (t := t) (mk := mk) (q := q) (v := a.1) ((p + 1) :: r) k1 (fun z hz => by have := hcons z hz; omega)
          rw [List.length_cons] at o1
          rw [o1] at hF
          by_cases c4 : r.length + 1 = q
          · rw [if_pos (show nI (r.length + 1) = nI q by rw [c4])] at hF
            by_cases c5 : tw_orl ((p + 1) :: r) = mk
            · rw [if_pos (show nI (tw_orl ((p + 1) :: r)) = nI mk by rw [c5])] at hF
              rw [if_pos ⟨c4, c5⟩] at hS
              rw [hS]
              exact ⟨by rw [List.length_cons]; exact c4, U, hF, k1⟩
            · rw [if_neg (fun z => c5 ((nI_eq (by omega) (by omega)).mp z)), if_pos ((nI_leI (by omega) (by omega)).mpr (by omega))] at hF
              rw [if_neg (fun z => c5 z.2), if_neg (by omega)] at hS
              rw [hS]
              exact ⟨_, hF, by rw [List.length_cons]; exact h1, k1, by rw [List.length_cons]; omega, hcons, kU⟩
          · rw [if_neg (fun z => c4 ((nI_eq (by omega) (by omega)).mp z)), if_neg (fun z => by rw [nI_leI (by omega) (by omega)] at z; omega)] at hF
            rw [if_neg (fun z => c4 z.1), if_pos (show r.length + 1 < q by omega)] at hS
            rw [hS]
            refine ⟨_, hF, ?_, ⟨?_, ?_⟩, ?_, ?_, ?_⟩
            · exact tq_dec1 (r.length + 1)
            · rw [List.length_cons]; exact tq_u_same
            · exact tw_stk_up _ (by rw [List.length_cons]; omega) k1
            · rw [List.length_cons, List.length_cons]; omega
            · intro z hz
              rcases List.mem_cons.mp hz with rfl | hz
              · omega
              · exact hcons z hz
            · show tq_u U 124 (r.length + 1) (nI (p + 1)) 118 (10 + t) = s
              rw [tq_u_cell (by decide)]; exact kU
        · rw [if_pos (Classical.byContradiction (fun z => c3 ((hw (by omega)).mp z)))] at hF
          rw [if_neg (fun z => c3 z.2)] at hS
          rw [hS]
          exact ⟨_, hF, by rw [List.length_cons]; exact h1, k1, by rw [List.length_cons]; omega, hcons, kU⟩
      · rw [if_neg (fun z => c2 (hsub.mp z))] at hF
        rw [if_neg (fun z => c2 z.1)] at hS
        rw [hS]
        exact ⟨_, hF, by rw [List.length_cons]; exact h1, k1, by rw [List.length_cons]; omega, hcons, kU⟩
theorem tw_murun (ht : t ≤ 5) (hmk : mk < 16) (hq : q ≤ 4) (hd : ∀ I : tq_I, I 118 (10 + t) = s → ∀ m, 1 ≤ m → m < 16 → (¬ r_X12_wayOf I t (nI m) = -1 ↔ Nat.testBit (tq_dr b) m = true)) : ∀ (n : Nat) (a : Int32 × tq_I) (st : List Nat) (r : Option (List Nat)), a.1 = nI st.length - nI 1 → tw_stk a.2 st → st.length ≤ q → (∀ p ∈ st, p ≤ mk) → a.2 118 (10 + t) = s → tw_run b mk q n st = some r → (r = none → (tq_wr (f_mu2 t mk q) (d_mu2 t mk q) n a).1 = nI 0) ∧ ∀ l, r = some l → l.length = q ∧ (tq_wr (f_mu2 t mk q) (d_mu2 t mk q) n a).1 = nI 1 ∧ tw_stk (tq_wr (f_mu2 t mk q) (d_mu2 t mk q) n a).2 l
  | 0, _, _, _, _, _, _, _, _, hr => by cases hr
  | n + 1, a, st, r, h1, h2, h3, h4, h5, hr => by
    have hs := tw_mustep ht hmk hq hd h1 h2 h3 h4 h5
    unfold tw_run at hr
    cases he : tw_stp b mk q st with
    | inl st' =>
      rw [he] at hs hr
      obtain ⟨a', g0, g1, g2, g3, g4, g5⟩ := hs
      rw [tq_wr_c g0]
      exact tw_murun ht hmk hq hd n a' st' r g1 g2 g3 g4 g5 hr
    | inr r' =>
      rw [he] at hs hr
      cases hr
      cases r with
      | none => exact ⟨fun _ => by rw [tq_wr_x hs]; rfl, fun l hl => by cases hl⟩
      | some l =>
        obtain ⟨g0, I', g1, g2⟩ := hs
        refine ⟨fun hl => (by cases hl), fun l' hl => ?_⟩
        cases hl
        rw [tq_wr_r g1]
        exact ⟨g0, rfl, g2⟩
theorem tw_mu (hb : b < 32) (ht : t ≤ 5) (hmk : mk < 16) (h1 : 1 ≤ mk) (hq1 : 1 ≤ q) (hq : q ≤ 4) (hd : ∀ I : tq_I, I 118 (10 + t) = s → ∀ m, 1 ≤ m → m < 16 → (¬ r_X12_wayOf I t (nI m) = -1 ↔ Nat.testBit (tq_dr b) m = true)) {I : tq_I} (hI : I 118 (10 + t) = s) : (tw_mk b mk q = none → r_X12_makesUp I t mk q = nI 0) ∧ ∀ l, tw_mk b mk q = some l → l.length = q ∧ r_X12_makesUp I t mk q = nI 1 ∧ tw_stk (I_X12_makesUp I t mk q) l := by
  have h2 := tw_run_end b hb (mk - 1) (by omega) (q - 1) (by omega)
  rw [show mk - 1 + 1 = mk by omega, show q - 1 + 1 = q by omega] at h2
  obtain ⟨r, hr⟩ := Option.isSome_iff_exists.mp h2
  have e : tw_mk b mk q = r := by unfold tw_mk; rw [hr]
  rw [e]
  have h3 := tw_run_mono 1500 88500 [0] hr
  rw [show 1500 + 88500 = 90000 from rfl] at h3
  unfold r_X12_makesUp I_X12_makesUp
  generalize (90000 : Nat) = N at h3 ⊢
  exact tw_murun ht hmk hq hd N (nI 0, tq_u I 124 0 (nI 0)) [0] r (show nI 0 = nI 1 - nI 1 by decide) ⟨show tq_u I 124 0 (nI 0) 124 0 = nI 0 from tq_u_same, trivial⟩ hq1 (fun p hp => by rw [List.mem_singleton.mp hp]; omega) (show tq_u I 124 0 (nI 0) 118 (10 + t) = s from (tq_u_cell (by decide)).trans hI) h3
end TWK
/-- what the reference finds -/
theorem tw_finds {B : tq_I} {t mk b : Nat} (hb : b < 32) (ht : t ≤ 5) (hmk : mk < 16) (h1 : 1 ≤ mk) (hd : ∀ I : tq_I, I 118 (10 + t) = B 118 (10 + t) → ∀ m, 1 ≤ m → m < 16 → (¬ r_X12_wayOf I t (nI m) = -1 ↔ Nat.testBit (tq_dr b) m = true)) : I_X12_finds B t mk 117 10 = nI (tw_fnd b mk).length ∧ ∀ k, k < (tw_fnd b mk).length → I_X12_finds B t mk 124 k = nI ((tw_fnd b mk).getD k 0) := by
  have n10 : ¬ nI 1 = 0 := by decide
  have p00 : nI 0 = 0 := by decide
  have m1 := tw_mu (q := 1) hb ht hmk h1 (by decide) (by decide) hd (I := tq_u B 117 10 (nI 1)) (tq_u_cell (by decide))
  unfold I_X12_finds tw_fnd
  generalize hI1 : I_X12_makesUp (tq_u B 117 10 (nI 1)) t mk 1 = I1 at *
  have f1 : ∀ cz, cz ≠ 124 → ∀ j, I1 cz j = tq_u B 117 10 (nI 1) cz j := fun cz hz j => by rw [← hI1, fr_X12_makesUp _ _ _ _ hz]
  cases h1' : tw_mk b mk 1 with
  | some l =>
    obtain ⟨g0, g1, g2⟩ := m1.2 l h1'
    rw [if_neg (by rw [g1]; exact n10)]
    refine ⟨by rw [f1 _ (by decide), tq_u_same, List.length_reverse, g0], fun k hk => tw_stk_get l g2 k (by rwa [List.length_reverse] at hk)⟩
  | none =>
    rw [if_pos (by rw [m1.1 h1']; exact p00)]
    have m2 := tw_mu (q := 2) hb ht hmk h1 (by decide) (by decide) hd (I := tq_u I1 117 10 (nI 2)) (by rw [tq_u_cell (by decide), f1 _ (by decide), tq_u_cell (by decide)])
    generalize hI2 : I_X12_makesUp (tq_u I1 117 10 (nI 2)) t mk 2 = I2 at *
    have f2 : ∀ cz, cz ≠ 124 → ∀ j, I2 cz j = tq_u I1 117 10 (nI 2) cz j := fun cz hz j => by rw [← hI2, fr_X12_makesUp _ _ _ _ hz]
    cases h2' : tw_mk b mk 2 with
    | some l =>
      obtain ⟨g0, g1, g2⟩ := m2.2 l h2'
      rw [if_neg (by rw [g1]; exact n10)]
      refine ⟨by rw [f2 _ (by decide), tq_u_same, List.length_reverse, g0], fun k hk => tw_stk_get l g2 k (by rwa [List.length_reverse] at hk)⟩
    | none =>
      rw [if_pos (by rw [m2.1 h2']; exact p00)]
      have m3 := tw_mu (q := 3) hb ht hmk h1 (by decide) (by decide) hd (I := tq_u I2 117 10 (nI 3)) (by rw [tq_u_cell (by decide), f2 _ (by decide), tq_u_cell (by decide), f1 _ (by decide), tq_u_cell (by decide)])
      generalize hI3 : I_X12_makesUp (tq_u I2 117 10 (nI 3)) t mk 3 = I3 at *
      have f3 : ∀ cz, cz ≠ 124 → ∀ j, I3 cz j = tq_u I2 117 10 (nI 3) cz j := fun cz hz j => by rw [← hI3, fr_X12_makesUp _ _ _ _ hz]
      cases h3' : tw_mk b mk 3 with
      | some l =>
        obtain ⟨g0, g1, g2⟩ := m3.2 l h3'
        rw [if_neg (by rw [g1]; exact n10)]
        refine ⟨by rw [f3 _ (by decide), tq_u_same, List.length_reverse, g0], fun k hk => tw_stk_get l g2 k (by rwa [List.length_reverse] at hk)⟩
      | none =>
        rw [if_pos (by rw [m3.1 h3']; exact p00)]
        have m4 := tw_mu (q := 4) hb ht hmk h1 (by decide) (by decide) hd (I := tq_u I3 117 10 (nI 4)) (by rw [tq_u_cell (by decide), f3 _ (by decide), tq_u_cell (by decide), f2 _ (by decide), tq_u_cell (by decide), f1 _ (by decide), tq_u_cell (by decide)])
        generalize hI4 : I_X12_makesUp (tq_u I3 117 10 (nI 4)) t mk 4 = I4 at *
        have f4 : ∀ cz, cz ≠ 124 → ∀ j, I4 cz j = tq_u I3 117 10 (nI 4) cz j := fun cz hz j => by rw [← hI4, fr_X12_makesUp _ _ _ _ hz]
        cases h4' : tw_mk b mk 4 with
        | some l =>
          obtain ⟨g0, g1, g2⟩ := m4.2 l h4'
          rw [if_neg (by rw [g1]; exact n10)]
          refine ⟨by rw [f4 _ (by decide), tq_u_same, List.length_reverse, g0], fun k hk => tw_stk_get l g2 k (by rwa [List.length_reverse] at hk)⟩
        | none =>
          rw [if_pos (by rw [m4.1 h4']; exact p00)]
          refine ⟨by rw [tq_u_cell (by decide), tq_u_same]; rfl, fun k hk => ?_⟩
          have e : k = 0 := by simp only [List.length_cons, List.length_nil] at hk; omega
          rw [e, tq_u_same]
          rfl
theorem tw_drawW {I : tq_I} {t m : Nat} (hm : m < 16) : ¬ r_X12_wayOf I t (nI m) = -1 ↔ tm_draw (I 118 (10 + t)) m := by
  have e := tw_wayE (A := fun _ _ => I 118 (10 + t)) (B := I) (t := t) rfl hm
  rw [← e]
  exact tm_draw_iff (I := fun _ _ => I 118 (10 + t)) hm
/-- the two sides: the class's set of parts, the reference's list -/
theorem tw_inv.prt {A B : tq_I} {w h o c L : Nat} (k : tw_inv A B w h o c L) {t mk : Nat} (ht : t ≤ 5) (hmk : mk < 16) (h1 : 1 ≤ mk) : ∃ b, b < 32 ∧ A 11 (t * 16 + mk) = nI (tq_ft b mk) ∧ (∀ m, 1 ≤ m → m < 16 → (tm_draw (A 10 t) m ↔ Nat.testBit (tq_dr b) m = true)) ∧ I_X12_finds B t mk 117 10 = nI (tw_fnd b mk).length ∧ ∀ k, k < (tw_fnd b mk).length → I_X12_finds B t mk 124 k = nI ((tw_fnd b mk).getD k 0) := by
  obtain ⟨⟨-, b, hb, h2, h3⟩, e, -⟩ := k.U (show t < 6 by omega)
  have hd : ∀ m, 1 ≤ m → m < 16 → (tm_draw (A 10 t) m ↔ Nat.testBit (tq_dr b) m = true) := fun m g1 g2 => by rw [← tw_drbt b hb m g2]; exact (h2 m g1 g2).symm
  obtain ⟨f1, f2⟩ := tw_finds (B := B) hb ht hmk h1 (fun I hI m g1 g2 => by rw [tw_drawW g2, hI, ← e]; exact hd m g1 g2)
  exact ⟨b, hb, h3 mk h1 hmk, hd, f1, f2⟩
set_option maxRecDepth 100000 in
theorem tw_bitc : ∀ b, b < 32 → ∀ m, m < 15 → r_J6_bitCount_0f7a4 (nI (tq_ft b (m + 1))) = nI (tw_fnd b (m + 1)).length := by decide +kernel
theorem tw_parts {A B : tq_I} {w h o c L : Nat} (k : tw_inv A B w h o c L) (t q : Int32) : r_X11_parts A t q w h o c L = r_X12_parts B t q := by
  unfold r_X11_parts r_X12_parts
  split
  · rfl
  · rename_i ht
    have ht' := (tq_t05 (tq_b10 ht)).2.2
    split
    · rfl
    · rename_i hq
      obtain ⟨q1, q2, q3⟩ := tq_w15 (tq_b10 hq)
      obtain ⟨b, hb, e1, -, e2, -⟩ := k.prt ht' (show tq_N q < 16 by omega) q2
      rw [e1, e2]
      have := tw_bitc b hb (tq_N q - 1) (by omega)
      rwa [show tq_N q - 1 + 1 = tq_N q by omega] at this
