/-! constructors with loops: Tiles, Rules, State, History -/
section TX2
variable {g : tq_G} {μ : tq_M} {x : tq_X} {k n pc : Nat} {lv : List (Option Value)} {st : List Value} {sh : List tq_S} {R R' : tq_R} {I I' : tq_I} {J : Int64}
theorem EV_getr (C : tq_C g μ x) {own idx c j pl a b : Nat} (hown : tq_cn own = μ.1.cls) (hf : (own, idx, c, j, pl) ∈ tq_fl) (hd : decode μ.2.1 pc = .ok (.getfield idx, 3)) (hs : sh[a]? = some (.inl c)) (hty : (∃ t, tq_ty c j = .array t) ∨ ∃ t, tq_ty c j = .object t) (hr : R a j = some b) (kk : EV g μ x k n (pc + 3) lv (.ref b :: st) sh R I J) : EV g μ x k n pc lv (.ref a :: st) sh R I J := by
  refine EV_get C hown (Or.inl hf) hd hs ?_
  have e : tq_av R I J (tq_ty c j) a j = .ref b := by
    rcases hty with ⟨t, h⟩ | ⟨t, h⟩ <;> rw [h] <;> simp [tq_av, hr, tq_ov]
  rw [e]
  exact kk
end TX2
def f_ti1 (a t : Nat) (i : Nat) (I : tq_I) : tq_I := tq_u I (a + 2) (t * 16 + (1 + i)) ((nI 1) <<< ((nI (1 + i)) &&& 31))
def f_ti2 (a : Nat) (i : Nat) (I : tq_I) : tq_I := tq_it (f_ti1 a i) 15 0 (tq_u I (a + 1) i (nI 65534))
set_option maxRecDepth 20000 in
theorem lp_ti1 {g : tq_G} {x0 : tq_X} (C : tq_C g mX10_init x0) {R : tq_R} {a t : Nat} (ha : a ∈ [9, 27, 43, 59, 75, 91]) (ht : t < 6) (hR1 : R a 1 = some (a + 2)) : ∀ (n i : Nat) (I : tq_I), i + n = 15 → EV g mX10_init x0 (0 + 1 + 1) (0 + 6 + 96) 64 [some (.ref a), some (.int (nI t)), some (.int (nI (1 + (i + n))))] [] (tx_A.take (a + 3)) R (tq_it (f_ti1 a t) n i I) 0 → EV g mX10_init x0 (0 + 1 + 1) (0 + 6 + 96) 38 [some (.ref a), some (.int (nI t)), some (.int (nI (1 + i)))] [] (tx_A.take (a + 3)) R I 0 := by
  have s0 : (tx_A.take (a + 3))[a]? = some (.inl 10) := tx_get (by omega) ((show ∀ a ∈ [9, 27, 43, 59, 75, 91], tx_A[a]? = some (.inl 10) by decide +kernel) a ha)
  have s2 : (tx_A.take (a + 3))[a + 2]? = some (.inr (0, 96)) := tx_get (by omega) ((show ∀ a ∈ [9, 27, 43, 59, 75, 91], tx_A[a + 2]? = some (.inr (0, 96)) by decide +kernel) a ha)
  intro n
  induction n with
  | zero =>
    intro i I hi kk
    refine EV_blk (own := 10) C rfl [(.iload_n 2, 0, 0, 0, 0), (.bipush 16, 0, 0, 0, (nI 16))] (pc' := 41) (by decide +kernel) (lv' := [some (.ref a), some (.int (nI t)), some (.int (nI (1 + i)))]) (st' := [.int (nI 16), .int (nI (1 + i))]) (I' := I) (J' := 0) rfl ?_
    refine EV_icmp_ge (off := 23) (tgt := 64) C (by decide +kernel) (by decide) (fun h1 => ?_) (fun h1 => ?_)
    · exact kk
    · exact absurd ((nI_leI (by omega) (by omega)).mpr (by omega)) h1
  | succ n ih =>
    intro i I hi kk
    refine EV_blk (own := 10) C rfl [(.iload_n 2, 0, 0, 0, 0), (.bipush 16, 0, 0, 0, (nI 16))] (pc' := 41) (by decide +kernel) (lv' := [some (.ref a), some (.int (nI t)), some (.int (nI (1 + i)))]) (st' := [.int (nI 16), .int (nI (1 + i))]) (I' := I) (J' := 0) rfl ?_
    refine EV_icmp_ge (off := 23) (tgt := 64) C (by decide +kernel) (by decide) (fun h1 => ?_) (fun h1 => ?_)
    · have := (nI_leI (by omega) (by omega)).mp h1
      omega
    · refine EV_blk (own := 10) C rfl [(.aload_n 0, 0, 0, 0, 0)] (pc' := 45) (by decide +kernel) (lv' := [some (.ref a), some (.int (nI t)), some (.int (nI (1 + i)))]) (st' := [.ref a]) (I' := I) (J' := 0) rfl ?_
      refine EV_getr (own := 10) (idx := 15) (c := 10) (j := 1) (pl := 132) C rfl (by decide) (by decide +kernel) s0 (Or.inl ⟨_, rfl⟩) hR1 ?_
      refine EV_blk (own := 10) C rfl [(.iload_n 1, 0, 0, 0, 0), (.bipush 16, 0, 0, 0, (nI 16)), (.imul, 0, 0, 0, 0), (.iload_n 2, 0, 0, 0, 0), (.iadd, 0, 0, 0, 0), (.iconst 1, 0, 0, 0, (nI 1)), (.iload_n 2, 0, 0, 0, 0), (.ishl, 0, 0, 0, 0)] (pc' := 57) (by decide +kernel) (lv' := [some (.ref a), some (.int (nI t)), some (.int (nI (1 + i)))]) (st' := [.int ((nI 1) <<< ((nI (1 + i)) &&& 31)), .int (((nI t) * (nI 16)) + (nI (1 + i))), .ref (a + 2)]) (I' := I) (J' := 0) rfl ?_
      refine EV_iast (j := t * 16 + (1 + i)) C (by decide +kernel) s2 (by rw [tq_mul, nI_add, nI_toInt (by omega)]) (by omega) ?_
      refine EV_blk (own := 10) C rfl [(.iinc 2 1, 0, 0, 0, (nI 1)), (.goto (-23), 0, 0, 0, 0)] (pc' := 38) (by decide +kernel) (lv' := [some (.ref a), some (.int (nI t)), some (.int ((nI (1 + i)) + (nI 1)))]) (st' := []) (I' := tq_u I (a + 2) (t * 16 + (1 + i)) ((nI 1) <<< ((nI (1 + i)) &&& 31))) (J' := 0) rfl ?_
      rw [nI_add, show 1 + i + 1 = 1 + (i + 1) by omega]
      rw [tq_its, show i + (n + 1) = (i + 1) + n by omega] at kk
      exact ih (i + 1) _ (by omega) kk
set_option maxRecDepth 20000 in
theorem lp_ti2 {g : tq_G} {x0 : tq_X} (C : tq_C g mX10_init x0) {R : tq_R} {a : Nat} (ha : a ∈ [9, 27, 43, 59, 75, 91]) (hR0 : R a 0 = some (a + 1)) (hR1 : R a 1 = some (a + 2)) : ∀ (n i : Nat) (I : tq_I), i + n = 6 → EV g mX10_init x0 (0 + 1 + 1) (0 + 6 + 96) 70 [some (.ref a), some (.int (nI (i + n))), none] [] (tx_A.take (a + 3)) R (tq_it (f_ti2 a) n i I) 0 → EV g mX10_init x0 (0 + 1 + 1) (0 + 6 + 96) 22 [some (.ref a), some (.int (nI i)), none] [] (tx_A.take (a + 3)) R I 0 := by
  have s0 : (tx_A.take (a + 3))[a]? = some (.inl 10) := tx_get (by omega) ((show ∀ a ∈ [9, 27, 43, 59, 75, 91], tx_A[a]? = some (.inl 10) by decide +kernel) a ha)
  have s1 : (tx_A.take (a + 3))[a + 1]? = some (.inr (0, 6)) := tx_get (by omega) ((show ∀ a ∈ [9, 27, 43, 59, 75, 91], tx_A[a + 1]? = some (.inr (0, 6)) by decide +kernel) a ha)
  intro n
  induction n with
  | zero =>
    intro i I hi kk
    refine EV_blk (own := 10) C rfl [(.iload_n 1, 0, 0, 0, 0), (.bipush 6, 0, 0, 0, (nI 6))] (pc' := 25) (by decide +kernel) (lv' := [some (.ref a), some (.int (nI i)), none]) (st' := [.int (nI 6), .int (nI i)]) (I' := I) (J' := 0) rfl ?_
    refine EV_icmp_ge (off := 45) (tgt := 70) C (by decide +kernel) (by decide) (fun h1 => ?_) (fun h1 => ?_)
    · exact kk
    · exact absurd ((nI_leI (by omega) (by omega)).mpr (by omega)) h1
  | succ n ih =>
    intro i I hi kk
    refine EV_blk (own := 10) C rfl [(.iload_n 1, 0, 0, 0, 0), (.bipush 6, 0, 0, 0, (nI 6))] (pc' := 25) (by decide +kernel) (lv' := [some (.ref a), some (.int (nI i)), none]) (st' := [.int (nI 6), .int (nI i)]) (I' := I) (J' := 0) rfl ?_
    refine EV_icmp_ge (off := 45) (tgt := 70) C (by decide +kernel) (by decide) (fun h1 => ?_) (fun h1 => ?_)
    · have := (nI_leI (by omega) (by omega)).mp h1
      omega
    · refine EV_blk (own := 10) C rfl [(.aload_n 0, 0, 0, 0, 0)] (pc' := 29) (by decide +kernel) (lv' := [some (.ref a), some (.int (nI i)), none]) (st' := [.ref a]) (I' := I) (J' := 0) rfl ?_
      refine EV_getr (own := 10) (idx := 9) (c := 10) (j := 0) (pl := 131) C rfl (by decide) (by decide +kernel) s0 (Or.inl ⟨_, rfl⟩) hR0 ?_
      refine EV_blk (own := 10) C rfl [(.iload_n 1, 0, 0, 0, 0), (.ldc 18, 0, 0, 130, (nI 65534))] (pc' := 35) (by decide +kernel) (lv' := [some (.ref a), some (.int (nI i)), none]) (st' := [.int (nI 65534), .int (nI i), .ref (a + 1)]) (I' := I) (J' := 0) rfl ?_
      refine EV_iast (j := i) C (by decide +kernel) s1 (nI_toInt (by omega)) (by omega) ?_
      refine EV_blk (own := 10) C rfl [(.iconst 1, 0, 0, 0, (nI 1)), (.istore_n 2, 0, 0, 0, 0)] (pc' := 38) (by decide +kernel) (lv' := [some (.ref a), some (.int (nI i)), some (.int (nI 1))]) (st' := []) (I' := tq_u I (a + 1) i (nI 65534)) (J' := 0) rfl ?_
      refine lp_ti1 C ha (by omega) hR1 15 0 _ (by omega) ?_
      refine EV_blk (own := 10) C rfl [(.iinc 1 1, 0, 0, 0, (nI 1)), (.goto (-45), 0, 0, 0, 0)] (pc' := 22) (by decide +kernel) (lv' := [some (.ref a), some (.int ((nI i) + (nI 1))), some (.int (nI (1 + (0 + 15))))]) (st' := []) (I' := tq_it (f_ti1 a i) 15 0 (tq_u I (a + 1) i (nI 65534))) (J' := 0) rfl ?_
      refine EV_fg (lv' := [some (.ref a), some (.int ((nI i) + (nI 1))), none]) ⟨rfl, rfl, trivial⟩ ?_
      rw [nI_add]
      rw [tq_its, show i + (n + 1) = (i + 1) + n by omega] at kk
      exact ih (i + 1) _ (by omega) kk
theorem tx_ti1 {a t : Nat} (n : Nat) (I : tq_I) : (∀ cz, cz ≠ a + 2 → ∀ j, tq_it (f_ti1 a t) n 0 I cz j = I cz j) ∧ ∀ j, tq_it (f_ti1 a t) n 0 I (a + 2) j = if t * 16 + 1 ≤ j ∧ j < t * 16 + 1 + n then (nI 1) <<< ((nI (j - t * 16)) &&& 31) else I (a + 2) j := by
  refine tw_it0 (fun n (z : tq_I) => (∀ cz, cz ≠ a + 2 → ∀ j, z cz j = I cz j) ∧ ∀ j, z (a + 2) j = if t * 16 + 1 ≤ j ∧ j < t * 16 + 1 + n then (nI 1) <<< ((nI (j - t * 16)) &&& 31) else I (a + 2) j) n I ⟨fun _ _ _ => rfl, fun j => by rw [if_neg (by omega)]⟩ ?_
  rintro n z hn ⟨h1, h2⟩
  unfold f_ti1
  refine ⟨fun cz hz j => by rw [tq_u_cell hz]; exact h1 cz hz j, fun j => ?_⟩
  by_cases e : j = t * 16 + (1 + n)
  · rw [e, tq_u_same, if_pos (by omega), show t * 16 + (1 + n) - t * 16 = 1 + n by omega]
  · rw [tq_u_slot e, h2]
    exact tw_if (by omega)
theorem tx_ti2 {a : Nat} (I : tq_I) (h1 : ∀ j, I (a + 1) j = 0) (h2 : ∀ j, I (a + 2) j = 0) : (∀ cz, cz ≠ a + 1 → cz ≠ a + 2 → ∀ j, tq_it (f_ti2 a) 6 0 I cz j = I cz j) ∧ (∀ j, tq_it (f_ti2 a) 6 0 I (a + 1) j = if j < 6 then nI 65534 else 0) ∧ ∀ j, tq_it (f_ti2 a) 6 0 I (a + 2) j = if j < 96 ∧ j % 16 ≠ 0 then (nI 1) <<< ((nI (j % 16)) &&& 31) else 0 := by
  have key := tw_it0 (f := f_ti2 a) (fun n (z : tq_I) => (∀ cz, cz ≠ a + 1 → cz ≠ a + 2 → ∀ j, z cz j = I cz j) ∧ (∀ j, z (a + 1) j = if j < n then nI 65534 else 0) ∧ ∀ j, z (a + 2) j = if j < n * 16 ∧ j % 16 ≠ 0 then (nI 1) <<< ((nI (j % 16)) &&& 31) else 0) 6 I ⟨fun _ _ _ _ => rfl, fun j => by rw [if_neg (by omega)]; exact h1 j, fun j => by rw [if_neg (by omega)]; exact h2 j⟩ (fun n z hn hz => by
    obtain ⟨z1, z2, z3⟩ := hz
    unfold f_ti2
    obtain ⟨y1, y2⟩ := tx_ti1 (a := a) (t := n) 15 (tq_u z (a + 1) n (nI 65534))
    refine ⟨fun cz c1 c2 j => by rw [y1 cz c2, tq_u_cell c1]; exact z1 cz c1 c2 j, fun j => ?_, fun j => ?_⟩
    · rw [y1 (a + 1) (by omega)]
      by_cases e : j = n
      · rw [e, tq_u_same, if_pos (by omega)]
      · rw [tq_u_slot e, z2]
        exact tw_if (by omega)
    · rw [y2, tq_u_cell (by omega), z3]
      by_cases c : n * 16 + 1 ≤ j ∧ j < n * 16 + 1 + 15
      · rw [if_pos c, if_pos (by omega), show j - n * 16 = j % 16 by omega]
      · rw [if_neg c]
        exact tw_if (by omega))
  exact key
set_option maxRecDepth 20000 in
theorem c_X10_init (g : tq_G) (R : tq_R) (I : tq_I) (a : Nat) (ha : a ∈ [9, 27, 43, 59, 75, 91]) (h0 : ∀ j, R a j = none ∧ I a j = 0) : CT g mX10_init 1 2 102 [.ref a] (tx_A.take (a + 1)) R I 0 (tx_Q a (a + 3) R I tx_I0) := by
  have hlt : a + 3 ≤ 131 := (show ∀ a ∈ [9, 27, 43, 59, 75, 91], a + 3 ≤ 131 by decide) a ha
  refine CT.of kX10_init (Nat.le_of_ble_eq_true rfl) (fun x0 C hR0 hZ => ?_)
  have hR := tq_ht.of hR0
  refine EV_en (lv' := [some (.ref a), none, none]) 2 rfl ?_
  refine EV_blk (own := 10) C rfl [(.aload_n 0, 0, 0, 0, 0)] (pc' := 1) (by decide +kernel) (lv' := [some (.ref a), none, none]) (st' := [.ref a]) (I' := I) (J' := 0) rfl ?_
  refine EV_obj (own := 10) (idx := 3) (pl := 129) C hR rfl (by decide) (by decide +kernel) (by decide) (by decide) ?_
  have K0 : tx_K a (a + 1) 0 R I (fun _ _ => 0) R I := ⟨fun _ _ _ => ⟨rfl, rfl⟩, fun j => by rw [if_neg (Nat.not_lt_zero j)]; exact (h0 j).1, fun j => (h0 j).2, fun a1 j h1 h2 => by omega⟩
  refine EV_blk (own := 10) C rfl [(.aload_n 0, 0, 0, 0, 0), (.bipush 6, 0, 0, 0, (nI 6))] (pc' := 7) (by decide +kernel) (lv' := [some (.ref a), none, none]) (st' := [.int (nI 6), .ref a]) (I' := I) (J' := 0) rfl ?_
  refine EV_fA (own := 10) (idx := 9) (c := 10) (j := 0) (pl := 131) (m := 6) C hR K0 (by decide) (by decide) (by omega) (by omega) ((show ∀ a ∈ [9, 27, 43, 59, 75, 91], tx_A[a + 1]? = some (.inr (0, 6)) by decide +kernel) a ha) ((show ∀ a ∈ [9, 27, 43, 59, 75, 91], tx_A[a]? = some (.inl 10) by decide +kernel) a ha) rfl (by decide) (by decide +kernel) (by decide +kernel) (Or.inr ⟨rfl, rfl⟩) (Or.inl ⟨_, rfl⟩) (by decide) (by decide) (by decide) (fun i h1 h2 => absurd h2 (by omega)) ((show ∀ a ∈ [9, 27, 43, 59, 75, 91], tq_RR a 0 = some (a + 1) by decide +kernel) a ha) ((show ∀ a ∈ [9, 27, 43, 59, 75, 91], tq_rt[a + 1]? = some [] by decide +kernel) a ha) (fun _ => rfl) (fun R1 I1 K1 => ?_)
  refine EV_blk (own := 10) C rfl [(.aload_n 0, 0, 0, 0, 0), (.bipush 96, 0, 0, 0, (nI 96))] (pc' := 15) (by decide +kernel) (lv' := [some (.ref a), none, none]) (st' := [.int (nI 96), .ref a]) (I' := I1) (J' := 0) rfl ?_
  refine EV_fA (own := 10) (idx := 15) (c := 10) (j := 1) (pl := 132) (m := 96) C hR K1 (by decide) (by decide) (by omega) (by omega) ((show ∀ a ∈ [9, 27, 43, 59, 75, 91], tx_A[a + 2]? = some (.inr (0, 96)) by decide +kernel) a ha) ((show ∀ a ∈ [9, 27, 43, 59, 75, 91], tx_A[a]? = some (.inl 10) by decide +kernel) a ha) rfl (by decide) (by decide +kernel) (by decide +kernel) (Or.inr ⟨rfl, rfl⟩) (Or.inl ⟨_, rfl⟩) (by decide) (by decide) (by decide) (fun i h1 h2 => absurd h2 (by omega)) ((show ∀ a ∈ [9, 27, 43, 59, 75, 91], tq_RR a 1 = some (a + 2) by decide +kernel) a ha) ((show ∀ a ∈ [9, 27, 43, 59, 75, 91], tq_rt[a + 2]? = some [] by decide +kernel) a ha) (fun _ => rfl) (fun R2 I2 K2 => ?_)
  refine EV_blk (own := 10) C rfl [(.iconst 0, 0, 0, 0, (nI 0)), (.istore_n 1, 0, 0, 0, 0)] (pc' := 22) (by decide +kernel) (lv' := [some (.ref a), some (.int (nI 0)), none]) (st' := []) (I' := I2) (J' := 0) rfl ?_
  obtain ⟨k1, k2, k3, k4⟩ := K2
  have r0 : R2 a 0 = some (a + 1) := by rw [k2, if_pos (by decide)]; exact (show ∀ a ∈ [9, 27, 43, 59, 75, 91], tq_RR a 0 = some (a + 1) by decide +kernel) a ha
  have r1 : R2 a 1 = some (a + 2) := by rw [k2, if_pos (by decide)]; exact (show ∀ a ∈ [9, 27, 43, 59, 75, 91], tq_RR a 1 = some (a + 2) by decide +kernel) a ha
  refine lp_ti2 C ha r0 r1 6 0 I2 (by omega) ?_
  obtain ⟨w1, w2, w3⟩ := tx_ti2 (a := a) I2 (fun j => (k4 (a + 1) j (by omega) (by omega)).2) (fun j => (k4 (a + 2) j (by omega) (by omega)).2)
  have o1 : tx_off (a + 1) = 9 := (show ∀ a ∈ [9, 27, 43, 59, 75, 91], tx_off (a + 1) = 9 by decide +kernel) a ha
  have o2 : tx_off (a + 2) = 10 := (show ∀ a ∈ [9, 27, 43, 59, 75, 91], tx_off (a + 2) = 10 by decide +kernel) a ha
  refine EV_vret C hZ rfl (by decide +kernel) (by decide) (by decide) ⟨rfl, rfl, rfl, fun b j hb => ⟨(k1 b j hb).1, by rw [w1 b (by omega) (by omega)]; exact (k1 b j hb).2⟩, fun b j h1 h2 => ?_⟩
  rcases (show b = a ∨ b = a + 1 ∨ b = a + 2 by omega) with rfl | rfl | rfl
  · refine ⟨?_, ?_⟩
    · rw [k2]
      by_cases hj : j < 2
      · rw [if_pos hj]
      · rw [if_neg hj, tx_end (f := 2) ((show ∀ a ∈ [9, 27, 43, 59, 75, 91], ((tq_rt[a]?).getD []).length ≤ 2 by decide +kernel) b ha) j (by omega)]
    · rw [w1 b (by omega) (by omega), k3, tx_I00 ((show ∀ a ∈ [9, 27, 43, 59, 75, 91], tx_off a ≠ 5 ∧ tx_off a ≠ 6 ∧ tx_off a ≠ 7 ∧ tx_off a ≠ 9 ∧ tx_off a ≠ 10 by decide +kernel) b ha)]
  · refine ⟨(k4 _ j (by omega) (by omega)).1, ?_⟩
    rw [w2]
    unfold tx_I0
    rw [o1]
    simp
  · refine ⟨(k4 _ j (by omega) (by omega)).1, ?_⟩
    rw [w3]
    unfold tx_I0
    rw [o2]
    simp
set_option maxRecDepth 20000 in
theorem c_X6_place0 (g : tq_G) (R : tq_R) (I : tq_I) (a t N : Nat) (ha : a ∈ [5, 23, 39, 55, 71, 87]) (hN : a + 2 < N) (hR0 : R a 0 = some (a + 1)) (hR1 : R a 1 = some (a + 2)) (ht : t < 6) : CT g mX6_place 0 0 0 [.ref a, .int (nI t), .int (nI t)] (tx_A.take N) R I 0 (tq_ret (tx_A.take N) R none (tq_u (tq_u I (a + 1) t (nI t)) (a + 2) t (nI t)) 0) := by
  have s0 : (tx_A.take N)[a]? = some (.inl 6) := tx_get (by omega) ((show ∀ a ∈ [5, 23, 39, 55, 71, 87], tx_A[a]? = some (.inl 6) by decide +kernel) a ha)
  have s1 : (tx_A.take N)[a + 1]? = some (.inr (0, 6)) := tx_get (by omega) ((show ∀ a ∈ [5, 23, 39, 55, 71, 87], tx_A[a + 1]? = some (.inr (0, 6)) by decide +kernel) a ha)
  have s2 : (tx_A.take N)[a + 2]? = some (.inr (0, 6)) := tx_get (by omega) ((show ∀ a ∈ [5, 23, 39, 55, 71, 87], tx_A[a + 2]? = some (.inr (0, 6)) by decide +kernel) a ha)
  refine CT.ret kX6_place (Nat.le_of_ble_eq_true rfl) (fun x0 C hR hZ => ?_)
  refine EV_en (lv' := [some (.ref a), some (.int (nI t)), some (.int (nI t))]) 0 rfl ?_
  refine EV_blk (own := 6) C rfl [(.aload_n 0, 0, 0, 0, 0)] (pc' := 1) (by decide +kernel) (lv' := [some (.ref a), some (.int (nI t)), some (.int (nI t))]) (st' := [.ref a]) (I' := I) (J' := 0) rfl ?_
  refine EV_getr (own := 6) (idx := 9) (c := 6) (j := 0) (pl := 142) C rfl (by decide) (by decide +kernel) s0 (Or.inl ⟨_, rfl⟩) hR0 ?_
  refine EV_blk (own := 6) C rfl [(.iload_n 1, 0, 0, 0, 0), (.iload_n 2, 0, 0, 0, 0)] (pc' := 6) (by decide +kernel) (lv' := [some (.ref a), some (.int (nI t)), some (.int (nI t))]) (st' := [.int (nI t), .int (nI t), .ref (a + 1)]) (I' := I) (J' := 0) rfl ?_
  refine EV_iast (j := t) C (by decide +kernel) s1 (nI_toInt (by omega)) (by omega) ?_
  refine EV_blk (own := 6) C rfl [(.aload_n 0, 0, 0, 0, 0)] (pc' := 8) (by decide +kernel) (lv' := [some (.ref a), some (.int (nI t)), some (.int (nI t))]) (st' := [.ref a]) (I' := tq_u I (a + 1) t (nI t)) (J' := 0) rfl ?_
  refine EV_getr (own := 6) (idx := 15) (c := 6) (j := 1) (pl := 143) C rfl (by decide) (by decide +kernel) s0 (Or.inl ⟨_, rfl⟩) hR1 ?_
  refine EV_blk (own := 6) C rfl [(.iload_n 2, 0, 0, 0, 0), (.iload_n 1, 0, 0, 0, 0)] (pc' := 13) (by decide +kernel) (lv' := [some (.ref a), some (.int (nI t)), some (.int (nI t))]) (st' := [.int (nI t), .int (nI t), .ref (a + 2)]) (I' := tq_u I (a + 1) t (nI t)) (J' := 0) rfl ?_
  refine EV_iast (j := t) C (by decide +kernel) s2 (nI_toInt (by omega)) (by omega) ?_
  exact EV_vret C hZ rfl (by decide +kernel) (Nat.le_refl _) (Nat.le_refl _) ⟨rfl, rfl, rfl, rfl, rfl⟩
def f_ri1 (a : Nat) (i : Nat) (I : tq_I) : tq_I := tq_u (tq_u (tq_u I (a + 1) i (nI i)) (a + 2) i (nI i)) (a + 3) i (nI 1)
set_option maxRecDepth 20000 in
theorem lp_ri1 {g : tq_G} {x0 : tq_X} (C : tq_C g mX6_init x0) (hR : tq_ht x0 2 6 122) {R : tq_R} {a : Nat} (ha : a ∈ [5, 23, 39, 55, 71, 87]) (hR0 : R a 0 = some (a + 1)) (hR1 : R a 1 = some (a + 2)) (hR2 : R a 2 = some (a + 3)) : ∀ (n i : Nat) (I : tq_I), i + n = 6 → EV g mX6_init x0 (0 + 1 + 1 + 1 + 1 + 2) (0 + 6 + 6 + 6 + 2 + 102) 66 [some (.ref a), some (.int (nI (i + n)))] [] (tx_A.take (a + 7)) R (tq_it (f_ri1 a) n i I) 0 → EV g mX6_init x0 (0 + 1 + 1 + 1 + 1 + 2) (0 + 6 + 6 + 6 + 2 + 102) 41 [some (.ref a), some (.int (nI i))] [] (tx_A.take (a + 7)) R I 0 := by
  have s0 : (tx_A.take (a + 7))[a]? = some (.inl 6) := tx_get (by omega) ((show ∀ a ∈ [5, 23, 39, 55, 71, 87], tx_A[a]? = some (.inl 6) by decide +kernel) a ha)
  have s3 : (tx_A.take (a + 7))[a + 3]? = some (.inr (0, 6)) := tx_get (by omega) ((show ∀ a ∈ [5, 23, 39, 55, 71, 87], tx_A[a + 3]? = some (.inr (0, 6)) by decide +kernel) a ha)
  intro n
  induction n with
  | zero =>
    intro i I hi kk
    refine EV_blk (own := 6) C rfl [(.iload_n 1, 0, 0, 0, 0), (.bipush 6, 0, 0, 0, (nI 6))] (pc' := 44) (by decide +kernel) (lv' := [some (.ref a), some (.int (nI i))]) (st' := [.int (nI 6), .int (nI i)]) (I' := I) (J' := 0) rfl ?_
    refine EV_icmp_ge (off := 22) (tgt := 66) C (by decide +kernel) (by decide) (fun h1 => ?_) (fun h1 => ?_)
    · exact kk
    · exact absurd ((nI_leI (by omega) (by omega)).mpr (by omega)) h1
  | succ n ih =>
    intro i I hi kk
    refine EV_blk (own := 6) C rfl [(.iload_n 1, 0, 0, 0, 0), (.bipush 6, 0, 0, 0, (nI 6))] (pc' := 44) (by decide +kernel) (lv' := [some (.ref a), some (.int (nI i))]) (st' := [.int (nI 6), .int (nI i)]) (I' := I) (J' := 0) rfl ?_
    refine EV_icmp_ge (off := 22) (tgt := 66) C (by decide +kernel) (by decide) (fun h1 => ?_) (fun h1 => ?_)
    · have := (nI_leI (by omega) (by omega)).mp h1
      omega
    · refine EV_blk (own := 6) C rfl [(.aload_n 0, 0, 0, 0, 0), (.iload_n 1, 0, 0, 0, 0), (.iload_n 1, 0, 0, 0, 0)] (pc' := 50) (by decide +kernel) (lv' := [some (.ref a), some (.int (nI i))]) (st' := [.int (nI i), .int (nI i), .ref a]) (I' := I) (J' := 0) rfl ?_
      refine EV_cV (own := 6) (idx := 28) (μ' := mX6_place) (b := a) (cb := 6) (av := [.int (nI i), .int (nI i)]) (rest := []) C hR rfl (Or.inl ⟨138, by decide⟩) kX6_place sX6_place (c_X6_place0 g R I a i (a + 7) ha (by omega) hR0 hR1 (by omega)) s0 rfl (by decide +kernel) rfl (by decide) (Nat.le_of_ble_eq_true rfl) rfl ⟨by decide, by decide⟩ ?_
      refine EV_blk (own := 6) C rfl [(.aload_n 0, 0, 0, 0, 0)] (pc' := 54) (by decide +kernel) (lv' := [some (.ref a), some (.int (nI i))]) (st' := [.ref a]) (I' := tq_u (tq_u I (a + 1) i (nI i)) (a + 2) i (nI i)) (J' := 0) rfl ?_
      refine EV_getr (own := 6) (idx := 18) (c := 6) (j := 2) (pl := 144) C rfl (by decide) (by decide +kernel) s0 (Or.inl ⟨_, rfl⟩) hR2 ?_
      refine EV_blk (own := 6) C rfl [(.iload_n 1, 0, 0, 0, 0), (.iconst 1, 0, 0, 0, (nI 1))] (pc' := 59) (by decide +kernel) (lv' := [some (.ref a), some (.int (nI i))]) (st' := [.int (nI 1), .int (nI i), .ref (a + 3)]) (I' := tq_u (tq_u I (a + 1) i (nI i)) (a + 2) i (nI i)) (J' := 0) rfl ?_
      refine EV_iast (j := i) C (by decide +kernel) s3 (nI_toInt (by omega)) (by omega) ?_
      refine EV_blk (own := 6) C rfl [(.iinc 1 1, 0, 0, 0, (nI 1)), (.goto (-22), 0, 0, 0, 0)] (pc' := 41) (by decide +kernel) (lv' := [some (.ref a), some (.int ((nI i) + (nI 1)))]) (st' := []) (I' := f_ri1 a i I) (J' := 0) rfl ?_
      rw [nI_add]
      rw [tq_its, show i + (n + 1) = (i + 1) + n by omega] at kk
      exact ih (i + 1) _ (by omega) kk
theorem tx_ri1 {a : Nat} (I : tq_I) (h1 : ∀ j, I (a + 1) j = 0 ∧ I (a + 2) j = 0 ∧ I (a + 3) j = 0) : (∀ cz, cz ≠ a + 1 → cz ≠ a + 2 → cz ≠ a + 3 → ∀ j, tq_it (f_ri1 a) 6 0 I cz j = I cz j) ∧ ∀ j, tq_it (f_ri1 a) 6 0 I (a + 1) j = (if j < 6 then nI j else 0) ∧ tq_it (f_ri1 a) 6 0 I (a + 2) j = (if j < 6 then nI j else 0) ∧ tq_it (f_ri1 a) 6 0 I (a + 3) j = (if j < 6 then nI 1 else 0) := by
  refine tw_it0 (f := f_ri1 a) (fun n (z : tq_I) => (∀ cz, cz ≠ a + 1 → cz ≠ a + 2 → cz ≠ a + 3 → ∀ j, z cz j = I cz j) ∧ ∀ j, z (a + 1) j = (if j < n then nI j else 0) ∧ z (a + 2) j = (if j < n then nI j else 0) ∧ z (a + 3) j = (if j < n then nI 1 else 0)) 6 I ⟨fun _ _ _ _ _ => rfl, fun j => by rw [if_neg (by omega), if_neg (by omega)]; exact h1 j⟩ (fun n z hn hz => ?_)
  obtain ⟨z1, z2⟩ := hz
  unfold f_ri1
  refine ⟨fun cz c1 c2 c3 j => by rw [tq_u_cell c3, tq_u_cell c2, tq_u_cell c1]; exact z1 cz c1 c2 c3 j, fun j => ⟨?_, ?_, ?_⟩⟩
  · rw [tq_u_cell (by omega), tq_u_cell (by omega)]
    by_cases e : j = n
    · rw [e, tq_u_same, if_pos (by omega)]
    · rw [tq_u_slot e, (z2 j).1]; exact tw_if (by omega)
  · rw [tq_u_cell (by omega)]
    by_cases e : j = n
    · rw [e, tq_u_same, if_pos (by omega)]
    · rw [tq_u_slot e, tq_u_cell (by omega), (z2 j).2.1]; exact tw_if (by omega)
  · by_cases e : j = n
    · rw [e, tq_u_same, if_pos (by omega)]
    · rw [tq_u_slot e, tq_u_cell (by omega), tq_u_cell (by omega), (z2 j).2.2]; exact tw_if (by omega)
theorem tx_ctw {g : tq_G} {μ : tq_M} {d mc ms b e : Nat} {av : List Value} {sh : List tq_S} {R : tq_R} {I TI TI' : tq_I} (h : ∀ a j, b ≤ a → TI a j = TI' a j) (ct : CT g μ d mc ms av sh R I 0 (tx_Q b e R I TI)) : CT g μ d mc ms av sh R I 0 (tx_Q b e R I TI') := by
  have : tx_Q b e R I TI' = tx_Q b e R I TI := by
    funext r sh' R' I' J'
    unfold tx_Q
    refine propext ⟨fun z => ⟨z.1, z.2.1, z.2.2.1, z.2.2.2.1, fun a j h1 h2 => by rw [h a j h1]; exact z.2.2.2.2 a j h1 h2⟩, fun z => ⟨z.1, z.2.1, z.2.2.1, z.2.2.2.1, fun a j h1 h2 => by rw [← h a j h1]; exact z.2.2.2.2 a j h1 h2⟩⟩
  rw [this]
  exact ct
set_option maxRecDepth 20000 in
theorem c_X6_init (g : tq_G) (R : tq_R) (I : tq_I) (a : Nat) (ha : a ∈ [5, 23, 39, 55, 71, 87]) (h0 : ∀ j, R a j = none ∧ I a j = 0) : CT g mX6_init 2 6 122 [.ref a] (tx_A.take (a + 1)) R I 0 (tx_Q a (a + 7) R I tx_I0) := by
  have hlt : a + 7 ≤ 131 := (show ∀ a ∈ [5, 23, 39, 55, 71, 87], a + 7 ≤ 131 by decide) a ha
  refine CT.of kX6_init (Nat.le_of_ble_eq_true rfl) (fun x0 C hR0 hZ => ?_)
  have hR := tq_ht.of hR0
  refine EV_en (lv' := [some (.ref a), none]) 1 rfl ?_
  refine EV_blk (own := 6) C rfl [(.aload_n 0, 0, 0, 0, 0)] (pc' := 1) (by decide +kernel) (lv' := [some (.ref a), none]) (st' := [.ref a]) (I' := I) (J' := 0) rfl ?_
  refine EV_obj (own := 6) (idx := 3) (pl := 123) C hR rfl (by decide) (by decide +kernel) (by decide) (by decide) ?_
  have K0 : tx_K a (a + 1) 0 R I (fun c j => if c ≤ a + 3 then 0 else tx_I0 c j) R I := ⟨fun _ _ _ => ⟨rfl, rfl⟩, fun j => by rw [if_neg (Nat.not_lt_zero j)]; exact (h0 j).1, fun j => (h0 j).2, fun a1 j h1 h2 => by omega⟩
  refine EV_blk (own := 6) C rfl [(.aload_n 0, 0, 0, 0, 0), (.bipush 6, 0, 0, 0, (nI 6))] (pc' := 7) (by decide +kernel) (lv' := [some (.ref a), none]) (st' := [.int (nI 6), .ref a]) (I' := I) (J' := 0) rfl ?_
  refine EV_fA (own := 6) (idx := 9) (c := 6) (j := 0) (pl := 142) (m := 6) C hR K0 (by decide) (by decide) (by omega) (by omega) ((show ∀ a ∈ [5, 23, 39, 55, 71, 87], tx_A[a + 1]? = some (.inr (0, 6)) by decide +kernel) a ha) ((show ∀ a ∈ [5, 23, 39, 55, 71, 87], tx_A[a]? = some (.inl 6) by decide +kernel) a ha) rfl (by decide) (by decide +kernel) (by decide +kernel) (Or.inr ⟨rfl, rfl⟩) (Or.inl ⟨_, rfl⟩) (by decide) (by decide) (by decide) (fun i h1 h2 => absurd h2 (by omega)) ((show ∀ a ∈ [5, 23, 39, 55, 71, 87], tq_RR a 0 = some (a + 1) by decide +kernel) a ha) ((show ∀ a ∈ [5, 23, 39, 55, 71, 87], tq_rt[a + 1]? = some [] by decide +kernel) a ha) (fun i => if_pos (by omega)) (fun R1 I1 K1 => ?_)
  refine EV_blk (own := 6) C rfl [(.aload_n 0, 0, 0, 0, 0), (.bipush 6, 0, 0, 0, (nI 6))] (pc' := 15) (by decide +kernel) (lv' := [some (.ref a), none]) (st' := [.int (nI 6), .ref a]) (I' := I1) (J' := 0) rfl ?_
  refine EV_fA (own := 6) (idx := 15) (c := 6) (j := 1) (pl := 143) (m := 6) C hR K1 (by decide) (by decide) (by omega) (by omega) ((show ∀ a ∈ [5, 23, 39, 55, 71, 87], tx_A[a + 2]? = some (.inr (0, 6)) by decide +kernel) a ha) ((show ∀ a ∈ [5, 23, 39, 55, 71, 87], tx_A[a]? = some (.inl 6) by decide +kernel) a ha) rfl (by decide) (by decide +kernel) (by decide +kernel) (Or.inr ⟨rfl, rfl⟩) (Or.inl ⟨_, rfl⟩) (by decide) (by decide) (by decide) (fun i h1 h2 => absurd h2 (by omega)) ((show ∀ a ∈ [5, 23, 39, 55, 71, 87], tq_RR a 1 = some (a + 2) by decide +kernel) a ha) ((show ∀ a ∈ [5, 23, 39, 55, 71, 87], tq_rt[a + 2]? = some [] by decide +kernel) a ha) (fun i => if_pos (by omega)) (fun R2 I2 K2 => ?_)
  refine EV_blk (own := 6) C rfl [(.aload_n 0, 0, 0, 0, 0), (.bipush 6, 0, 0, 0, (nI 6))] (pc' := 23) (by decide +kernel) (lv' := [some (.ref a), none]) (st' := [.int (nI 6), .ref a]) (I' := I2) (J' := 0) rfl ?_
  refine EV_fA (own := 6) (idx := 18) (c := 6) (j := 2) (pl := 144) (m := 6) C hR K2 (by decide) (by decide) (by omega) (by omega) ((show ∀ a ∈ [5, 23, 39, 55, 71, 87], tx_A[a + 3]? = some (.inr (0, 6)) by decide +kernel) a ha) ((show ∀ a ∈ [5, 23, 39, 55, 71, 87], tx_A[a]? = some (.inl 6) by decide +kernel) a ha) rfl (by decide) (by decide +kernel) (by decide +kernel) (Or.inr ⟨rfl, rfl⟩) (Or.inl ⟨_, rfl⟩) (by decide) (by decide) (by decide) (fun i h1 h2 => absurd h2 (by omega)) ((show ∀ a ∈ [5, 23, 39, 55, 71, 87], tq_RR a 2 = some (a + 3) by decide +kernel) a ha) ((show ∀ a ∈ [5, 23, 39, 55, 71, 87], tq_rt[a + 3]? = some [] by decide +kernel) a ha) (fun i => if_pos (by omega)) (fun R3 I3 K3 => ?_)
  refine EV_blk (own := 6) C rfl [(.aload_n 0, 0, 0, 0, 0)] (pc' := 29) (by decide +kernel) (lv' := [some (.ref a), none]) (st' := [.ref a]) (I' := I3) (J' := 0) rfl ?_
  refine EV_fO (own := 6) (idxK := 21) (plK := 124) (idxI := 23) (idx := 24) (c := 6) (c' := 10) (j := 3) (pl := 146) (e := a + 7) (μ' := mX10_init) C hR K3 (by omega) (by omega) ((show ∀ a ∈ [5, 23, 39, 55, 71, 87], tx_A[a + 4]? = some (.inl 10) by decide +kernel) a ha) (by decide) ((show ∀ a ∈ [5, 23, 39, 55, 71, 87], tx_A[a]? = some (.inl 6) by decide +kernel) a ha) rfl (by decide) (Or.inl ⟨126, by decide⟩) kX10_init sX10_init rfl (fun R2 I2 h2 => tx_ctw (fun b j hb => (if_neg (by omega)).symm) (c_X10_init g R2 I2 (a + 4) ((show ∀ a ∈ [5, 23, 39, 55, 71, 87], a + 4 ∈ [9, 27, 43, 59, 75, 91] by decide) a ha) h2)) (by decide) (by decide +kernel) (by decide +kernel) (by decide +kernel) (by decide +kernel) (Or.inr ⟨rfl, rfl⟩) (Or.inr ⟨_, rfl⟩) (by decide) (Nat.le_of_ble_eq_true rfl) (by decide) (by decide) (by decide) (fun i h1 h2 => absurd h2 (by omega)) ((show ∀ a ∈ [5, 23, 39, 55, 71, 87], tq_RR a 3 = some (a + 4) by decide +kernel) a ha) (by omega) (by omega) (fun R4 I4 K4 => ?_)
  refine EV_blk (own := 6) C rfl [(.iconst 0, 0, 0, 0, (nI 0)), (.istore_n 1, 0, 0, 0, 0)] (pc' := 41) (by decide +kernel) (lv' := [some (.ref a), some (.int (nI 0))]) (st' := []) (I' := I4) (J' := 0) rfl ?_
  obtain ⟨k1, k2, k3, k4⟩ := K4
  have r0 : R4 a 0 = some (a + 1) := by rw [k2, if_pos (by decide)]; exact (show ∀ a ∈ [5, 23, 39, 55, 71, 87], tq_RR a 0 = some (a + 1) by decide +kernel) a ha
  have r1 : R4 a 1 = some (a + 2) := by rw [k2, if_pos (by decide)]; exact (show ∀ a ∈ [5, 23, 39, 55, 71, 87], tq_RR a 1 = some (a + 2) by decide +kernel) a ha
  have r2 : R4 a 2 = some (a + 3) := by rw [k2, if_pos (by decide)]; exact (show ∀ a ∈ [5, 23, 39, 55, 71, 87], tq_RR a 2 = some (a + 3) by decide +kernel) a ha
  refine lp_ri1 C hR ha r0 r1 r2 6 0 I4 (by omega) ?_
  dsimp only at k4
  obtain ⟨w1, w2⟩ := tx_ri1 (a := a) I4 (fun j => ⟨by rw [(k4 (a + 1) j (by omega) (by omega)).2, if_pos (by omega)], by rw [(k4 (a + 2) j (by omega) (by omega)).2, if_pos (by omega)], by rw [(k4 (a + 3) j (by omega) (by omega)).2, if_pos (by omega)]⟩)
  have o1 : tx_off (a + 1) = 5 := (show ∀ a ∈ [5, 23, 39, 55, 71, 87], tx_off (a + 1) = 5 by decide +kernel) a ha
  have o2 : tx_off (a + 2) = 6 := (show ∀ a ∈ [5, 23, 39, 55, 71, 87], tx_off (a + 2) = 6 by decide +kernel) a ha
  have o3 : tx_off (a + 3) = 7 := (show ∀ a ∈ [5, 23, 39, 55, 71, 87], tx_off (a + 3) = 7 by decide +kernel) a ha
  refine EV_vret C hZ rfl (by decide +kernel) (by decide) (by decide) ⟨rfl, rfl, rfl, fun b j hb => ⟨(k1 b j hb).1, by rw [w1 b (by omega) (by omega) (by omega)]; exact (k1 b j hb).2⟩, fun b j h1 h2 => ?_⟩
  by_cases h4 : a + 3 < b
  · refine ⟨(k4 b j (by omega) h2).1, ?_⟩
    rw [w1 b (by omega) (by omega) (by omega), (k4 b j (by omega) h2).2, if_neg (by omega)]
  · rcases (show b = a ∨ b = a + 1 ∨ b = a + 2 ∨ b = a + 3 by omega) with rfl | rfl | rfl | rfl
    · refine ⟨?_, ?_⟩
      · rw [k2]
        by_cases hj : j < 4
        · rw [if_pos hj]
        · rw [if_neg hj, tx_end (f := 4) ((show ∀ a ∈ [5, 23, 39, 55, 71, 87], ((tq_rt[a]?).getD []).length ≤ 4 by decide +kernel) b ha) j (by omega)]
      · rw [w1 b (by omega) (by omega) (by omega), k3, tx_I00 ((show ∀ a ∈ [5, 23, 39, 55, 71, 87], tx_off a ≠ 5 ∧ tx_off a ≠ 6 ∧ tx_off a ≠ 7 ∧ tx_off a ≠ 9 ∧ tx_off a ≠ 10 by decide +kernel) b ha)]
    · refine ⟨(k4 _ j (by omega) h2).1, ?_⟩
      rw [(w2 j).1]
      unfold tx_I0
      rw [o1]
      simp
    · refine ⟨(k4 _ j (by omega) h2).1, ?_⟩
      rw [(w2 j).2.1]
      unfold tx_I0
      rw [o2]
      simp
    · refine ⟨(k4 _ j (by omega) h2).1, ?_⟩
      rw [(w2 j).2.2]
      unfold tx_I0
      rw [o3]
      simp
set_option maxRecDepth 20000 in
theorem c_X8_init (g : tq_G) (R : tq_R) (I : tq_I) (a : Nat) (ha : a ∈ [1, 19, 35, 51, 67, 83]) (h0 : ∀ j, R a j = none ∧ I a j = 0) : CT g mX8_init 3 15 1357 [.ref a] (tx_A.take (a + 1)) R I 0 (tx_Q a (a + 16) R I tx_I0) := by
  have hlt : a + 16 ≤ 131 := (show ∀ a ∈ [1, 19, 35, 51, 67, 83], a + 16 ≤ 131 by decide) a ha
  refine CT.of kX8_init (Nat.le_of_ble_eq_true rfl) (fun x0 C hR0 hZ => ?_)
  have hR := tq_ht.of hR0
  refine EV_en (lv' := [some (.ref a)]) 0 rfl ?_
  refine EV_blk (own := 8) C rfl [(.aload_n 0, 0, 0, 0, 0)] (pc' := 1) (by decide +kernel) (lv' := [some (.ref a)]) (st' := [.ref a]) (I' := I) (J' := 0) rfl ?_
  refine EV_obj (own := 8) (idx := 3) (pl := 88) C hR rfl (by decide) (by decide +kernel) (by decide) (by decide) ?_
  have K0 : tx_K a (a + 1) 0 R I tx_I0 R I := ⟨fun _ _ _ => ⟨rfl, rfl⟩, fun j => by rw [if_neg (Nat.not_lt_zero j)]; exact (h0 j).1, fun j => (h0 j).2, fun a1 j h1 h2 => by omega⟩
  refine EV_blk (own := 8) C rfl [(.aload_n 0, 0, 0, 0, 0)] (pc' := 5) (by decide +kernel) (lv' := [some (.ref a)]) (st' := [.ref a]) (I' := I) (J' := 0) rfl ?_
  refine EV_fO (own := 8) (idxK := 9) (plK := 89) (idxI := 11) (idx := 12) (c := 8) (c' := 3) (j := 0) (pl := 190) (e := a + 4) (μ' := mX3_init) C hR K0 (by omega) (by omega) ((show ∀ a ∈ [1, 19, 35, 51, 67, 83], tx_A[a + 1]? = some (.inl 3) by decide +kernel) a ha) (by decide) ((show ∀ a ∈ [1, 19, 35, 51, 67, 83], tx_A[a]? = some (.inl 8) by decide +kernel) a ha) rfl (by decide) (Or.inr ⟨91, by decide⟩) kX3_init sX3_init rfl (fun R2 I2 h2 => c_X3_init g R2 I2 (a + 1) ((show ∀ a ∈ [1, 19, 35, 51, 67, 83], a + 1 ∈ [2, 20, 36, 52, 68, 84] by decide) a ha) h2) (by decide) (by decide +kernel) (by decide +kernel) (by decide +kernel) (by decide +kernel) (Or.inr ⟨rfl, rfl⟩) (Or.inr ⟨_, rfl⟩) (by decide) (Nat.le_of_ble_eq_true rfl) (by decide) (by decide) (by decide) (fun i h1 h2 => absurd h2 (by omega)) ((show ∀ a ∈ [1, 19, 35, 51, 67, 83], tq_RR a 0 = some (a + 1) by decide +kernel) a ha) (by omega) (by omega) (fun R1 I1 K1 => ?_)
  refine EV_blk (own := 8) C rfl [(.aload_n 0, 0, 0, 0, 0)] (pc' := 16) (by decide +kernel) (lv' := [some (.ref a)]) (st' := [.ref a]) (I' := I1) (J' := 0) rfl ?_
  refine EV_fO (own := 8) (idxK := 18) (plK := 118) (idxI := 20) (idx := 21) (c := 8) (c' := 6) (j := 1) (pl := 194) (e := a + 11) (μ' := mX6_init) C hR K1 (by omega) (by omega) ((show ∀ a ∈ [1, 19, 35, 51, 67, 83], tx_A[a + 4]? = some (.inl 6) by decide +kernel) a ha) (by decide) ((show ∀ a ∈ [1, 19, 35, 51, 67, 83], tx_A[a]? = some (.inl 8) by decide +kernel) a ha) rfl (by decide) (Or.inl ⟨120, by decide⟩) kX6_init sX6_init rfl (fun R2 I2 h2 => c_X6_init g R2 I2 (a + 4) ((show ∀ a ∈ [1, 19, 35, 51, 67, 83], a + 4 ∈ [5, 23, 39, 55, 71, 87] by decide) a ha) h2) (by decide) (by decide +kernel) (by decide +kernel) (by decide +kernel) (by decide +kernel) (Or.inr ⟨rfl, rfl⟩) (Or.inr ⟨_, rfl⟩) (by decide) (Nat.le_of_ble_eq_true rfl) (by decide) (by decide) (by decide) (fun i h1 h2 => absurd h2 (by omega)) ((show ∀ a ∈ [1, 19, 35, 51, 67, 83], tq_RR a 1 = some (a + 4) by decide +kernel) a ha) (by omega) (by omega) (fun R2 I2 K2 => ?_)
  refine EV_blk (own := 8) C rfl [(.aload_n 0, 0, 0, 0, 0)] (pc' := 27) (by decide +kernel) (lv' := [some (.ref a)]) (st' := [.ref a]) (I' := I2) (J' := 0) rfl ?_
  refine EV_fO (own := 8) (idxK := 25) (plK := 167) (idxI := 27) (idx := 28) (c := 8) (c' := 1) (j := 2) (pl := 197) (e := a + 16) (μ' := mX1_init) C hR K2 (by omega) (by omega) ((show ∀ a ∈ [1, 19, 35, 51, 67, 83], tx_A[a + 11]? = some (.inl 1) by decide +kernel) a ha) (by decide) ((show ∀ a ∈ [1, 19, 35, 51, 67, 83], tx_A[a]? = some (.inl 8) by decide +kernel) a ha) rfl (by decide) (Or.inr ⟨169, by decide⟩) kX1_init sX1_init rfl (fun R2 I2 h2 => c_X1_init g R2 I2 (a + 11) ((show ∀ a ∈ [1, 19, 35, 51, 67, 83], a + 11 ∈ [12, 30, 46, 62, 78, 94] by decide) a ha) h2) (by decide) (by decide +kernel) (by decide +kernel) (by decide +kernel) (by decide +kernel) (Or.inr ⟨rfl, rfl⟩) (Or.inr ⟨_, rfl⟩) (by decide) (Nat.le_of_ble_eq_true rfl) (by decide) (by decide) (by decide) (fun i h1 h2 => absurd h2 (by omega)) ((show ∀ a ∈ [1, 19, 35, 51, 67, 83], tq_RR a 2 = some (a + 11) by decide +kernel) a ha) (by omega) (by omega) (fun R3 I3 K3 => ?_)
  exact EV_vret C hZ rfl (by decide +kernel) (by decide) (by decide) (K3.q ((show ∀ a ∈ [1, 19, 35, 51, 67, 83], ((tq_rt[a]?).getD []).length ≤ 3 by decide +kernel) a ha) (tx_I00 ((show ∀ a ∈ [1, 19, 35, 51, 67, 83], tx_off a ≠ 5 ∧ tx_off a ≠ 6 ∧ tx_off a ≠ 7 ∧ tx_off a ≠ 9 ∧ tx_off a ≠ 10 by decide +kernel) a ha)))
