/-! regions: both sides find the least closed set -/
def tw_adj (k l : Nat) : Prop := (k / 11 = l / 11 ∧ (k % 11 + 1 = l % 11 ∨ l % 11 + 1 = k % 11)) ∨ (k % 11 = l % 11 ∧ (k / 11 + 1 = l / 11 ∨ l / 11 + 1 = k / 11))
/-- a set that holds all of S and k0, and with a place all places beside it in T -/
def tw_cs (T S : Nat → Prop) (k0 : Nat) (C : Nat → Prop) : Prop := (∀ k, S k → C k) ∧ C k0 ∧ ∀ k l, C k → tw_adj k l → T l → C l
def tw_cl (T S : Nat → Prop) (k0 : Nat) (S' : Nat → Prop) : Prop := tw_cs T S k0 S' ∧ (∀ k, S' k → T k) ∧ ∀ C : Nat → Prop, tw_cs T S k0 C → ∀ k, S' k → C k
theorem tw_cl.uniq {T S : Nat → Prop} {k0 : Nat} {S1 S2 : Nat → Prop} (h1 : tw_cl T S k0 S1) (h2 : tw_cl T S k0 S2) (k : Nat) : S1 k ↔ S2 k :=
  ⟨fun h => h1.2.2 S2 h2.1 k h, fun h => h2.2.2 S1 h1.1 k h⟩
/-! the class -/
def tw_G (T S : Nat → Prop) (k0 : Nat) (A a : tq_I) (n : Nat) : Prop := (∀ cz, cz ≠ 99 → cz ≠ 100 → cz ≠ 101 → ∀ j, a cz j = A cz j) ∧ a 99 2 = nI n ∧ n ≤ 121 ∧ (∀ j, j < n → ∃ v, v < 121 ∧ a 101 j = nI v ∧ a 100 v = nI 1) ∧ (∀ i j, i < n → j < n → a 101 i = a 101 j → i = j) ∧ (∀ k, k < 121 → a 100 k = nI 1 → T k ∧ (S k ∨ ∃ j, j < n ∧ a 101 j = nI k)) ∧ (∀ k, S k → a 100 k = nI 1) ∧ ∀ C : Nat → Prop, tw_cs T S k0 C → ∀ k, k < 121 → a 100 k = nI 1 → C k
theorem tw_meet {T S : Nat → Prop} {k0 : Nat} {A a : tq_I} {n w h : Nat} {x y t : Int32} (hw : A 2 0 = nI w) (hh : A 2 1 = nI h) (hw10 : w ≤ 10) (hh10 : h ≤ 10) (hT : ∀ k, T k ↔ k < 121 ∧ k % 11 ≤ w ∧ k / 11 ≤ h ∧ A 3 k = t) (g : tw_G T S k0 A a n)
    (hK : ∀ k, T k → x.toInt = ((k % 11 : Nat) : Int) → y.toInt = ((k / 11 : Nat) : Int) → ∀ C : Nat → Prop, tw_cs T S k0 C → C k) :
    ∃ n', n ≤ n' ∧ tw_G T S k0 A (I_X5_meet a x y t) n' ∧ (∀ j, j < n → I_X5_meet a x y t 101 j = a 101 j) ∧ (∀ k, a 100 k = nI 1 → I_X5_meet a x y t 100 k = nI 1) ∧ ∀ k, T k → x.toInt = ((k % 11 : Nat) : Int) → y.toInt = ((k / 11 : Nat) : Int) → I_X5_meet a x y t 100 k = nI 1 := by
  have g0 := g
  obtain ⟨g1, g2, g3, g4, g5, g6, g7, g8⟩ := g
  have same : (∀ k, T k → x.toInt = ((k % 11 : Nat) : Int) → y.toInt = ((k / 11 : Nat) : Int) → a 100 k = nI 1) → I_X5_meet a x y t = a → ∃ n', n ≤ n' ∧ tw_G T S k0 A (I_X5_meet a x y t) n' ∧ (∀ j, j < n → I_X5_meet a x y t 101 j = a 101 j) ∧ (∀ k, a 100 k = nI 1 → I_X5_meet a x y t 100 k = nI 1) ∧ ∀ k, T k → x.toInt = ((k % 11 : Nat) : Int) → y.toInt = ((k / 11 : Nat) : Int) → I_X5_meet a x y t 100 k = nI 1 := fun s e => by
    rw [e]; exact ⟨n, Nat.le_refl _, g0, fun _ _ => rfl, fun _ h => h, s⟩
  by_cases hc : tq_corner a x y
  · have hc' : 0 ≤ x.toInt ∧ x.toInt ≤ (w : Int) ∧ 0 ≤ y.toInt ∧ y.toInt ≤ (h : Int) := by
      have := hc
      unfold tq_corner at this
      rw [g1 2 (by decide) (by decide) (by decide), g1 2 (by decide) (by decide) (by decide), hw, hh, nI_toInt (by omega), nI_toInt (by omega)] at this
      exact this
    have ex := tq_nIN hc'.1
    have ey := tq_nIN hc'.2.2.1
    have nx := tq_NI hc'.1
    have ny := tq_NI hc'.2.2.1
    have e3 : y * nI 11 + x = nI (tq_N y * 11 + tq_N x) := by
      conv => lhs; rw [ex, ey]
      rw [tq_mul, nI_add]
    have un : I_X5_meet a x y t = (if (tq_b (a 100 (tq_N y * 11 + tq_N x) = nI 1)) = 0 then (if (a 3 (tq_N y * 11 + tq_N x)) = t then (if (nI 121) ≤ (a 99 2) then a else (tq_u (tq_u (tq_u a 100 (tq_N y * 11 + tq_N x) (nI 1)) 101 (tq_N (a 99 2)) (nI (tq_N y * 11 + tq_N x))) 99 2 (nI (n + 1)))) else a) else a) := by
      unfold I_X5_meet
      rw [if_neg (fun q => tq_b0.mp q hc), e3, tq_u_cell (by decide), tq_u_cell (by decide), g2, nI_add]
    have kx : x.toInt = (((tq_N y * 11 + tq_N x) % 11 : Nat) : Int) := by omega
    have ky : y.toInt = (((tq_N y * 11 + tq_N x) / 11 : Nat) : Int) := by omega
    have kl : tq_N y * 11 + tq_N x < 121 := by omega
    clear e3 ex ey nx ny
    generalize tq_N y * 11 + tq_N x = K at *
    by_cases hm : a 100 K = nI 1
    · refine same (fun k hk h1 h2 => ?_) ?_
      · rw [show k = K by omega]; exact hm
      · rw [un, if_neg (fun q => tq_b0.mp q hm)]
    · by_cases ht : a 3 K = t
      · have hTk : T K := (hT _).mpr ⟨kl, by omega, by omega, by rw [← g1 3 (by decide) (by decide) (by decide)]; exact ht⟩
        have fn : ∀ j, j < n → ¬ a 101 j = nI K := fun j hj e => by
          obtain ⟨v, v1, v2, v3⟩ := g4 j hj
          rw [v2] at e
          rw [tr_inj (by omega) (by omega) e] at v3
          exact hm v3
        have fN : ∀ j, j < n → tq_N (a 101 j) < 121 ∧ a 101 j = nI (tq_N (a 101 j)) := fun j hj => by
          obtain ⟨v, v1, v2, v3⟩ := g4 j hj
          rw [v2, tq_N_nI (by omega)]
          exact ⟨v1, rfl⟩
        have hn : n < 121 := by
          have := tq_pig 121 (n + 1) (fun i => if i < n then tq_N (a 101 i) else K) (fun i hi => by
            split
            · rename_i h1; exact (fN i h1).1
            · exact kl) (fun i j hi hj e => by
            by_cases c1 : i < n
            · by_cases c2 : j < n
              · rw [if_pos c1, if_pos c2] at e
                exact g5 i j c1 c2 (by rw [(fN i c1).2, (fN j c2).2, e])
              · rw [if_pos c1, if_neg c2] at e
                exact absurd (by rw [(fN i c1).2, e]) (fn i c1)
            · by_cases c2 : j < n
              · rw [if_neg c1, if_pos c2] at e
                exact absurd (by rw [(fN j c2).2, ← e]) (fn j c2)
              · omega)
          omega
        have eA : I_X5_meet a x y t = tq_u (tq_u (tq_u a 100 K (nI 1)) 101 n (nI K)) 99 2 (nI (n + 1)) := by
          rw [un, if_pos (tq_b0.mpr hm), if_pos ht, if_neg (by rw [g2, nI_leI (by omega) (by omega)]; omega), g2, tq_N_nI (by omega)]
        have a0 : ∀ k, I_X5_meet a x y t 100 k = if k = K then nI 1 else a 100 k := fun k => by
          rw [eA, tq_u_cell (by decide), tq_u_cell (by decide)]
          by_cases e : k = K
          · rw [if_pos e, e, tq_u_same]
          · rw [if_neg e, tq_u_slot e]
        have a1 : ∀ j, I_X5_meet a x y t 101 j = if j = n then nI K else a 101 j := fun j => by
          rw [eA, tq_u_cell (by decide)]
          by_cases e : j = n
          · rw [if_pos e, e, tq_u_same]
          · rw [if_neg e, tq_u_slot e, tq_u_cell (by decide)]
        have mono : ∀ k, a 100 k = nI 1 → I_X5_meet a x y t 100 k = nI 1 := fun k hk => by
          rw [a0]
          split
          · rfl
          · exact hk
        refine ⟨n + 1, by omega, ⟨fun cz z1 z2 z3 j => by rw [eA, tq_u_cell z1, tq_u_cell z3, tq_u_cell z2]; exact g1 cz z1 z2 z3 j, by rw [eA, tq_u_same], by omega, fun j hj => ?_, fun i j hi hj e => ?_, fun k hk hk2 => ?_, fun k hk => mono k (g7 k hk), fun C hC k hk hk2 => ?_⟩, fun j hj => by rw [a1, if_neg (by omega)], mono, fun k hk h1 h2 => by rw [a0, if_pos (by omega)]⟩
        · by_cases e : j = n
          · exact ⟨K, kl, by rw [a1, if_pos e], by rw [a0, if_pos rfl]⟩
          · obtain ⟨v, v1, v2, v3⟩ := g4 j (by omega)
            exact ⟨v, v1, by rw [a1, if_neg e]; exact v2, mono v v3⟩
        · rw [a1, a1] at e
          by_cases c1 : i = n
          · by_cases c2 : j = n
            · omega
            · rw [if_pos c1, if_neg c2] at e
              exact absurd e.symm (fn j (by omega))
          · by_cases c2 : j = n
            · rw [if_neg c1, if_pos c2] at e
              exact absurd e (fn i (by omega))
            · rw [if_neg c1, if_neg c2] at e
              exact g5 i j (by omega) (by omega) e
        · by_cases e : k = K
          · rw [e]; exact ⟨hTk, Or.inr ⟨n, by omega, by rw [a1, if_pos rfl]⟩⟩
          · rw [a0, if_neg e] at hk2
            obtain ⟨u1, u2⟩ := g6 k hk hk2
            refine ⟨u1, u2.imp id ?_⟩
            rintro ⟨j, j1, j2⟩
            exact ⟨j, by omega, by rw [a1, if_neg (by omega)]; exact j2⟩
        · by_cases e : k = K
          · rw [e]; exact hK K hTk kx ky C hC
          · rw [a0, if_neg e] at hk2
            exact g8 C hC k hk hk2
      · refine same (fun k hk h1 h2 => ?_) ?_
        · have := ((hT k).mp hk).2.2.2
          rw [show k = K by omega, ← g1 3 (by decide) (by decide) (by decide)] at this
          exact absurd this ht
        · rw [un, if_pos (tq_b0.mpr hm), if_neg ht]
  · refine same (fun k hk h1 h2 => ?_) ?_
    · refine absurd ?_ hc
      have := (hT k).mp hk
      unfold tq_corner
      rw [g1 2 (by decide) (by decide) (by decide), g1 2 (by decide) (by decide) (by decide), hw, hh, nI_toInt (by omega), nI_toInt (by omega)]
      omega
    · unfold I_X5_meet
      rw [if_pos (tq_b0.mpr hc)]
theorem tw_gat {T S : Nat → Prop} {k0 : Nat} {A : tq_I} {w h x y : Nat} {t : Int32} (hw : A 2 0 = nI w) (hh : A 2 1 = nI h) (hw10 : w ≤ 10) (hh10 : h ≤ 10) (hT : ∀ k, T k ↔ k < 121 ∧ k % 11 ≤ w ∧ k / 11 ≤ h ∧ A 3 k = t) : ∀ (m i : Nat) (a : tq_I) (n : Nat), i + m = 121 → tw_G T S k0 A a n → (∀ j, j < i → j < n → ∀ v l, v < 121 → a 101 j = nI v → tw_adj v l → T l → a 100 l = nI 1) → ∃ n', tw_G T S k0 A (tq_wh (f_gat1 x y t) m i a) n' ∧ (∀ j, j < n' → ∀ v l, v < 121 → tq_wh (f_gat1 x y t) m i a 101 j = nI v → tw_adj v l → T l → tq_wh (f_gat1 x y t) m i a 100 l = nI 1) ∧ ∀ k, a 100 k = nI 1 → tq_wh (f_gat1 x y t) m i a 100 k = nI 1
  | 0, i, a, n, hi, g, hcov => ⟨n, g, fun j hj => hcov j (by have := g.2.2.1; omega) hj, fun _ h => h⟩
  | m + 1, i, a, n, hi, g, hcov => by
    have h3 := g.2.2.1
    have h2 := g.2.1
    by_cases hn : n ≤ i
    · rw [tq_wh_none (by unfold f_gat1; rw [h2, if_pos ((nI_leI (by omega) (by omega)).mpr hn)])]
      exact ⟨n, g, fun j hj => hcov j (by omega) hj, fun _ h => h⟩
    · obtain ⟨v, hv, e, ev⟩ := g.2.2.2.1 i (by omega)
      have hC : ∀ C : Nat → Prop, tw_cs T S k0 C → C v := fun C h1 => g.2.2.2.2.2.2.2 C h1 v hv ev
      have hK : ∀ {x y : Int32}, (∀ k, x.toInt = ((k % 11 : Nat) : Int) → y.toInt = ((k / 11 : Nat) : Int) → tw_adj v k) → ∀ k, T k → x.toInt = ((k % 11 : Nat) : Int) → y.toInt = ((k / 11 : Nat) : Int) → ∀ C : Nat → Prop, tw_cs T S k0 C → C k := fun ha k hk h1 h2 C h3 => h3.2.2 v k (hC C h3) (ha k h1 h2) hk
      have m1 : (nI (v % 11) - nI 1).toInt = ((v % 11 : Nat) : Int) - 1 := tq_m1 (by omega)
      have m2 : (nI (v / 11) - nI 1).toInt = ((v / 11 : Nat) : Int) - 1 := tq_m1 (by omega)
      have m3 : (nI (v % 11)).toInt = ((v % 11 : Nat) : Int) := nI_toInt (by omega)
      have m4 : (nI (v / 11)).toInt = ((v / 11 : Nat) : Int) := nI_toInt (by omega)
      have m5 : (nI (v % 11 + 1)).toInt = ((v % 11 + 1 : Nat) : Int) := nI_toInt (by omega)
      have m6 : (nI (v / 11 + 1)).toInt = ((v / 11 + 1 : Nat) : Int) := nI_toInt (by omega)
      obtain ⟨n1, l1, G1, p1, q1, r1⟩ := tw_meet hw hh hw10 hh10 hT g (x := nI (v % 11) - nI 1) (y := nI (v / 11)) (hK (fun k z1 z2 => by unfold tw_adj; omega))
      obtain ⟨n2, l2, G2, p2, q2, r2⟩ := tw_meet hw hh hw10 hh10 hT G1 (x := nI (v % 11 + 1)) (y := nI (v / 11)) (hK (fun k z1 z2 => by unfold tw_adj; omega))
      obtain ⟨n3, l3, G3, p3, q3, r3⟩ := tw_meet hw hh hw10 hh10 hT G2 (x := nI (v % 11)) (y := nI (v / 11) - nI 1) (hK (fun k z1 z2 => by unfold tw_adj; omega))
      obtain ⟨n4, l4, G4, p4, q4, r4⟩ := tw_meet hw hh hw10 hh10 hT G3 (x := nI (v % 11)) (y := nI (v / 11 + 1)) (hK (fun k z1 z2 => by unfold tw_adj; omega))
      have ef : f_gat1 x y t i a = some (I_X5_meet (I_X5_meet (I_X5_meet (I_X5_meet a (nI (v % 11) - nI 1) (nI (v / 11)) t) (nI (v % 11 + 1)) (nI (v / 11)) t) (nI (v % 11)) (nI (v / 11) - nI 1) t) (nI (v % 11)) (nI (v / 11 + 1)) t) := by
        unfold f_gat1
        rw [h2, if_neg (fun z => hn ((nI_leI (by omega) (by omega)).mp z)), e, tq_rem_nI (by omega) (by omega), tq_div_nI (by omega) (by omega), nI_add, nI_add]
      rw [tq_wh_some ef]
      generalize I_X5_meet a (nI (v % 11) - nI 1) (nI (v / 11)) t = a1 at *
      generalize I_X5_meet a1 (nI (v % 11 + 1)) (nI (v / 11)) t = a2 at *
      generalize I_X5_meet a2 (nI (v % 11)) (nI (v / 11) - nI 1) t = a3 at *
      generalize I_X5_meet a3 (nI (v % 11)) (nI (v / 11 + 1)) t = a4 at *
      have mono : ∀ k, a 100 k = nI 1 → a4 100 k = nI 1 := fun k hk => q4 k (q3 k (q2 k (q1 k hk)))
      have fnd : ∀ j, j < n → a4 101 j = a 101 j := fun j hj => by rw [p4 j (by omega), p3 j (by omega), p2 j (by omega), p1 j hj]
      obtain ⟨n', z1, z2, z3⟩ := tw_gat hw hh hw10 hh10 hT m (i + 1) a4 n4 (by omega) G4 (fun j hj hj2 u l hu hul ha hl => by
        by_cases e2 : j = i
        · subst e2
          rw [fnd j (by omega), e] at hul
          have := tr_inj (by omega) (by omega) hul
          subst this
          unfold tw_adj at ha
          have hl2 := (hT l).mp hl
          rcases (show (l % 11 + 1 = v % 11 ∧ v / 11 = l / 11) ∨ (v % 11 + 1 = l % 11 ∧ v / 11 = l / 11) ∨ (v % 11 = l % 11 ∧ l / 11 + 1 = v / 11) ∨ (v % 11 = l % 11 ∧ v / 11 + 1 = l / 11) by omega) with c | c | c | c
          · exact q4 l (q3 l (q2 l (r1 l hl (by omega) (by omega))))
          · exact q4 l (q3 l (r2 l hl (by omega) (by omega)))
          · exact q4 l (r3 l hl (by omega) (by omega))
          · exact r4 l hl (by omega) (by omega)
        · rw [fnd j (by omega)] at hul
          exact mono l (hcov j (by omega) (by omega) u l hu hul ha hl))
      exact ⟨n', z1, z2, fun k hk => z3 k (mono k hk)⟩
/-- the class gathers the least closed set, and lists what is new -/
theorem tw_gather {T : Nat → Prop} {a : tq_I} {w h x y : Nat} (hw : a 2 0 = nI w) (hh : a 2 1 = nI h) (hw10 : w ≤ 10) (hh10 : h ≤ 10) (hx : x ≤ w) (hy : y ≤ h) (hT : ∀ k, T k ↔ k < 121 ∧ k % 11 ≤ w ∧ k / 11 ≤ h ∧ a 3 k = a 3 (y * 11 + x)) (hS1 : ∀ k, k < 121 ∧ a 100 k = nI 1 → T k) (hS2 : ∀ k l, k < 121 ∧ a 100 k = nI 1 → tw_adj k l → T l → l < 121 ∧ a 100 l = nI 1) :
    tw_cl T (fun k => k < 121 ∧ a 100 k = nI 1) (y * 11 + x) (fun k => k < 121 ∧ I_X5_gather a x y 100 k = nI 1) ∧ ∃ n, tw_G T (fun k => k < 121 ∧ a 100 k = nI 1) (y * 11 + x) a (I_X5_gather a x y) n := by
  have h0 : tq_u a 99 2 (nI 0) 3 (y * 11 + x) = a 3 (y * 11 + x) := tq_u_cell (by decide)
  have e100 : ∀ j, tq_u a 99 2 (nI 0) 100 j = a 100 j := fun j => tq_u_cell (by decide)
  have Tk0 : T (y * 11 + x) := (hT _).mpr ⟨by omega, by omega, by omega, rfl⟩
  have g0 : tw_G T (fun k => k < 121 ∧ a 100 k = nI 1) (y * 11 + x) a (tq_u a 99 2 (nI 0)) 0 := by
    refine ⟨fun cz z1 z2 z3 j => tq_u_cell z1, tq_u_same, by omega, fun j hj => absurd hj (Nat.not_lt_zero j), fun i j hi => absurd hi (Nat.not_lt_zero i), fun k hk hk2 => ?_, fun k hk => by rw [e100]; exact hk.2, fun C hC k hk hk2 => hC.1 k ⟨hk, by rw [← e100]; exact hk2⟩⟩
    rw [e100] at hk2
    exact ⟨hS1 k ⟨hk, hk2⟩, Or.inl ⟨hk, hk2⟩⟩
  obtain ⟨n1, l1, G1, p1, q1, r1⟩ := tw_meet hw hh hw10 hh10 hT g0 (x := nI x) (y := nI y) (fun k hk z1 z2 C hC => by
    rw [nI_toInt (by omega)] at z1 z2
    have := (hT k).mp hk
    rw [show k = y * 11 + x by omega]
    exact hC.2.1)
  obtain ⟨n', G2, c2, m2⟩ := tw_gat (x := x) (y := y) hw hh hw10 hh10 hT 121 0 _ n1 rfl G1 (fun j hj => absurd hj (Nat.not_lt_zero j))
  have eg : I_X5_gather a x y = tq_wh (f_gat1 x y (a 3 (y * 11 + x))) 121 0 (I_X5_meet (tq_u a 99 2 (nI 0)) (nI x) (nI y) (a 3 (y * 11 + x))) := by
    unfold I_X5_gather
    rw [h0]
  rw [← eg] at G2 c2 m2
  refine ⟨⟨⟨fun k hk => ⟨hk.1, G2.2.2.2.2.2.2.1 k hk⟩, ⟨by omega, m2 _ (r1 _ Tk0 (by rw [nI_toInt (by omega)]; omega) (by rw [nI_toInt (by omega)]; omega))⟩, fun k l hk hkl hl => ⟨((hT l).mp hl).1, ?_⟩⟩, fun k hk => (G2.2.2.2.2.2.1 k hk.1 hk.2).1, fun C hC k hk => G2.2.2.2.2.2.2.2 C hC k hk.1 hk.2⟩, n', G2⟩
  rcases (G2.2.2.2.2.2.1 k hk.1 hk.2).2 with hs | ⟨j, j1, j2⟩
  · exact G2.2.2.2.2.2.2.1 l (hS2 k l hs hkl hl)
  · exact c2 j j1 k l hk.1 j2 hkl hl
