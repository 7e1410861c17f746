/-! digest -/
theorem tw_it1 {α : Type} (f : Nat → α → α) (i : Nat) (a : α) : tq_it f 1 i a = f i a := rfl
theorem tw_itz {α : Type} (f : Nat → α → α) (i : Nat) (a : α) : tq_it f 0 i a = a := rfl
theorem tw_mx0 {b a : tq_I} {v : Int64} {x y cl at_ n j M z : Nat} {p : Int64} (h : r_X11_propertyOfPiece (a 14 (cl * 7 + n)) (nI j) = r_X12_ofPiece (b 118 (at_ + 2 + n)) (nI j)) (hj : j < 4) : f_mx1 a (a 14 (cl * 7 + n)) v x y cl z j p = f_mnc1 b x y at_ M (4 * n + j) p := by
  unfold f_mx1 f_mnc1
  rw [show (4 * n + j) / 4 = n by omega, show (4 * n + j) % 4 = j by omega, h]
theorem tw_mx {a b : tq_I} {v : Int64} {x y cl at_ N M : Nat} (e : ∀ i, i < N → (0 ≤ (a 14 (cl * 7 + i)).toInt ∧ (a 14 (cl * 7 + i)).toInt ≤ 383) ∧ b 118 (at_ + 2 + i) = nI (tw_rc (tq_N (a 14 (cl * 7 + i))))) (s : Int64) : ∀ n, n ≤ N → tq_it (f_mx2 a v x y cl M) n 0 s = tq_it (f_mnc1 b x y at_ M) (4 * n) 0 s := by
  intro n
  induction n with
  | zero => intro _; rw [Nat.mul_zero, tw_itz, tw_itz]
  | succ n ih =>
    intro hn
    have h1 := ih (by omega)
    rw [show 4 * (n + 1) = 4 * n + 4 by omega, tw_ita (f_mnc1 b x y at_ M), tw_ita (f_mx2 a v x y cl M) n 1, ← h1, Nat.zero_add, Nat.zero_add, tw_it1]
    generalize tq_it (f_mx2 a v x y cl M) n 0 s = s'
    unfold f_mx2
    obtain ⟨u1, u2⟩ := e n (by omega)
    have e2 := tq_nIN u1.1
    have hl : tq_N (a 14 (cl * 7 + n)) < 384 := by unfold tq_N; omega
    have e5 : ∀ j, j < 4 → r_X11_propertyOfPiece (a 14 (cl * 7 + n)) (nI j) = r_X12_ofPiece (b 118 (at_ + 2 + n)) (nI j) := fun j hj => by
      rw [u2]
      conv => lhs; rw [e2]
      exact tw_prop _ hl j hj
    refine tw_it2 (fun _ (p q : Int64) => p = q) 4 0 (4 * n) s' s' rfl (fun j p q hj hpq => ?_)
    rw [hpq, Nat.zero_add]
    exact tw_mx0 (e5 j hj) hj
section TWG
variable {A B A' B' : tq_I} {w h o c L : Nat}
theorem tw_mixC (k : tw_inv A B w h o c L) {x y : Nat} (hx : x < w) (hy : y < h) (v : Int64) : r_X11_mixCell A v x y w h o c L = J_X12_noteCell B v x y w h ∧ tw_inv (I_X11_mixCell A v x y w h o c L) (I_X12_noteCell B v x y w h) w h o c L := by
  have hw := k.w1
  obtain ⟨e1, e2⟩ := tw_staleAt k hx hy
  have e6 := tw_draw6 k hx hy
  have kA := k.drA x y
  have k1 := kA.fpB x y
  have eP := (kA.pathE hx hy).1
  obtain ⟨v1, v2, v3, v4, v5⟩ := k1.V (j := y * 10 + x) (by omega)
  have v0 : A 13 (y * 10 + x) = B 118 (343 + 10 * (y * 10 + x)) := (k.V (by omega)).1
  have v0' : I_X7_draw A x y 13 (y * 10 + x) = A 13 (y * 10 + x) := fr_X7_draw A x y (by decide) _
  refine ⟨?_, by unfold I_X11_mixCell I_X12_noteCell; simp only [ite_self]; rw [tr_stl]; exact k1⟩
  unfold r_X11_staleAt at e1
  unfold r_X11_mixCell J_X12_noteCell
  rw [tr_stl, show 10 * y + x = y * 10 + x by omega, eP, ← e6, ← v1, ← v0]
  rw [v0'] at v5
  have mx := fun M s => tw_mx (a := I_X7_draw A x y) (b := I_X12_findsPieces B x y w h) (v := v) (x := x) (y := y) (cl := y * 10 + x) (at_ := 343 + 10 * (y * 10 + x)) (N := tq_N (A 13 (y * 10 + x))) (M := M) v5 s (tq_N (A 13 (y * 10 + x))) (Nat.le_refl _)
  by_cases hs : r_X1_shows (I_X7_draw A x y) (y * 10 + x) (tq_N (I_X7_draw A x y 102 5)) = 0
  · rw [if_pos hs] at e1 ⊢
    rw [← e1, if_neg (by decide)]
    exact mx _ _
  · rw [if_neg hs] at e1 ⊢
    rw [← e1, if_pos (by decide)]
    exact mx _ _
theorem tw_digest (k : tw_inv A B w h o c L) (J : Int64) : r_X11_digest A w h o c L = r_X12_digest B J w h ∧ J_X12_digest B J w h = r_X12_digest B J w h ∧ tw_inv (I_X11_digest A w h o c L) (I_X12_digest B J w h) w h o c L := by
  have hw := k.w1
  have e1 : tq_it (f_dg2 A w h) (h + 1) 0 (((31 : Int64) * (((31 : Int64) * (17 : Int64)) + ((A 2 0)).toInt64)) + ((A 2 1)).toInt64) = tq_it (f_mdg2 B w h) (h + 1) 0 (((31 : Int64) * (((31 : Int64) * (17 : Int64)) + ((B 118 0)).toInt64)) + ((B 118 1)).toInt64) := by
    rw [k.D.1, k.D.2, k.twh.1, k.twh.2.1]
    refine tw_it20 (fun _ (p q : Int64) => p = q) (h + 1) _ _ rfl (fun i p q hi hpq => ?_)
    unfold f_dg2 f_mdg2
    refine tw_it20 (fun _ (p q : Int64) => p = q) (w + 1) _ _ hpq (fun j p q hj hpq => ?_)
    unfold f_dg1 f_mdg1
    rw [hpq, k.T (x := j) (y := i) (by omega) (by omega), show 22 + (i * 11 + j) = 22 + 11 * i + j by omega]
  unfold r_X11_digest r_X12_digest I_X11_digest I_X12_digest J_X12_digest
  rw [e1]
  have key := tw_it20 (f := f_dg4 w h o c L) (g := f_mdg4 w h) (fun _ (p : Int64 × tq_I) (q : tq_I × Int64) => p.1 = q.2 ∧ tw_inv p.2 q.1 w h o c L) h (tq_it (f_mdg2 B w h) (h + 1) 0 (((31 : Int64) * (((31 : Int64) * (17 : Int64)) + ((B 118 0)).toInt64)) + ((B 118 1)).toInt64), A) (B, tq_it (f_mdg2 B w h) (h + 1) 0 (((31 : Int64) * (((31 : Int64) * (17 : Int64)) + ((B 118 0)).toInt64)) + ((B 118 1)).toInt64)) ⟨rfl, k⟩ (fun i p q hi hpq => by
    unfold f_dg4 f_mdg4
    dsimp only
    exact tw_it20 (f := f_dg3 i w h o c L) (g := f_mdg3 i w h) (fun _ (p : Int64 × tq_I) (q : tq_I × Int64) => p.1 = q.2 ∧ tw_inv p.2 q.1 w h o c L) w (p.1, p.2) (q.1, q.2) hpq (fun j p q hj hpq => by
      unfold f_dg3 f_mdg3
      obtain ⟨g1, g2⟩ := tw_mixC hpq.2 hj hi p.1
      dsimp only
      rw [← hpq.1]
      exact ⟨g1, g2⟩))
  obtain ⟨g1, g2⟩ := key
  refine ⟨?_, rfl, g2⟩
  rw [g1, tw_touched g2]
end TWG
