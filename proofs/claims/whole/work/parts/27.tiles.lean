/-! ===== Int32 by its bits: bt x i ===== -/
def bt (x : Int32) (i : Nat) : Bool := x.toBitVec.getLsbD i
theorem b_ext {x y : Int32} (h : ∀ i, i < 32 → bt x i = bt y i) : x = y := Int32.toBitVec_inj.mp (BitVec.eq_of_getLsbD_eq (fun i hi => h i hi))
theorem b_or (x y : Int32) (i : Nat) : bt (x ||| y) i = (bt x i || bt y i) := by unfold bt; rw [Int32.toBitVec_or, BitVec.getLsbD_or]
theorem b_and (x y : Int32) (i : Nat) : bt (x &&& y) i = (bt x i && bt y i) := by unfold bt; rw [Int32.toBitVec_and, BitVec.getLsbD_and]
theorem b_xor (x y : Int32) (i : Nat) : bt (x ^^^ y) i = (bt x i ^^ bt y i) := by unfold bt; rw [Int32.toBitVec_xor, BitVec.getLsbD_xor]
theorem b_big {x : Int32} {i : Nat} (h : 32 ≤ i) : bt x i = false := BitVec.getLsbD_of_ge _ _ h
theorem b_255 (i : Nat) : bt 255 i = decide (i < 8) := by
  rcases Nat.lt_or_ge i 32 with h | h
  · exact (by decide +kernel : ∀ i, i < 32 → bt 255 i = decide (i < 8)) i h
  · rw [b_big h, decide_eq_false (by omega)]
theorem b_65535 (i : Nat) : bt 65535 i = decide (i < 16) := by
  rcases Nat.lt_or_ge i 32 with h | h
  · exact (by decide +kernel : ∀ i, i < 32 → bt 65535 i = decide (i < 16)) i h
  · rw [b_big h, decide_eq_false (by omega)]
theorem b_m1 : ∀ i, i < 32 → bt (-1) i = true := by decide +kernel
theorem b_0 (i : Nat) : bt 0 i = false := BitVec.getLsbD_zero
theorem s_l : ∀ n, n < 32 → ((nI n &&& 31).toBitVec.smod 32).toNat = n := by decide +kernel
theorem s_u : ∀ n, n < 32 → (((nI n).toUInt32 &&& Int32.toUInt32 31).toBitVec % 32).toNat = n := by decide +kernel
theorem b_shl (n : Nat) (hn : n < 32) (x : Int32) {i : Nat} (hi : i < 32) : bt (x <<< (nI n &&& 31)) i = (decide (n ≤ i) && bt x (i - n)) := by
  unfold bt
  rw [Int32.toBitVec_shiftLeft]
  show (x.toBitVec <<< ((nI n &&& 31).toBitVec.smod 32).toNat).getLsbD i = _
  rw [s_l n hn, BitVec.getLsbD_shiftLeft]
  rcases Nat.lt_or_ge i n with h | h
  · simp [h, Nat.not_le.mpr h]
  · simp [hi, h, Nat.not_lt.mpr h]
theorem b_ushr (n : Nat) (hn : n < 32) (x : Int32) (i : Nat) : bt ((x.toUInt32 >>> ((nI n).toUInt32 &&& Int32.toUInt32 31)).toInt32) i = bt x (n + i) := by
  show (x.toUInt32 >>> ((nI n).toUInt32 &&& Int32.toUInt32 31)).toBitVec.getLsbD i = x.toUInt32.toBitVec.getLsbD (n + i)
  rw [UInt32.toBitVec_shiftRight]
  show (x.toUInt32.toBitVec >>> (((nI n).toUInt32 &&& Int32.toUInt32 31).toBitVec % 32).toNat).getLsbD i = _
  rw [s_u n hn, BitVec.getLsbD_ushiftRight]
theorem b_sshr (n : Nat) (hn : n < 32) (x : Int32) {i : Nat} (hi : i < 32) : bt (x >>> (nI n &&& 31)) i = if n + i < 32 then bt x (n + i) else bt x 31 := by
  unfold bt
  rw [Int32.toBitVec_shiftRight]
  show (x.toBitVec.sshiftRight ((nI n &&& 31).toBitVec.smod 32).toNat).getLsbD i = _
  rw [s_l n hn, BitVec.getLsbD_sshiftRight, BitVec.msb_eq_getLsbD_last]
  simp [hi]
theorem tq_b1i : ∀ i, i < 32 → bt (nI 1) i = decide (i = 0) := by decide +kernel
def tq_hs (s : Int32) (j : Nat) : Prop := ((s >>> ((nI j) &&& 31)) &&& (nI 1)) = (nI 1)
theorem tq_bit {s : Int32} {j : Nat} (hj : j < 32) : tq_hs s j ↔ bt s j = true := by
  have e : bt (s >>> (nI j &&& 31)) 0 = bt s j := by
    rw [b_sshr j hj s (by decide), if_pos (by omega)]
    rfl
  unfold tq_hs
  constructor
  · intro h
    have h2 := congrArg (fun z => bt z 0) h
    simp only [b_and, tq_b1i 0 (by decide)] at h2
    rw [e] at h2
    simpa using h2
  · intro h
    refine b_ext (fun i hi => ?_)
    rw [b_and, tq_b1i i hi]
    by_cases h0 : i = 0
    · subst h0
      rw [e, h]
      rfl
    · simp [h0]
theorem tq_flN : ∀ m, m < 16 → ∀ i, i < 4 → r_X10_flip (nI m) (nI i) = nI (tq_N (r_X10_flip (nI m) (nI i))) ∧ tq_N (r_X10_flip (nI m) (nI i)) < 16 ∧ (1 ≤ m → 1 ≤ tq_N (r_X10_flip (nI m) (nI i))) := by decide +kernel
/-- a mask, flipped -/
def tm_fl (m i : Nat) : Nat := tq_N (r_X10_flip (nI m) (nI i))
theorem tm_fl_eq {m i : Nat} (hm : m < 16) (hi : i < 4) : r_X10_flip (nI m) (nI i) = nI (tm_fl m i) := (tq_flN m hm i hi).1
theorem tm_fl_lt {m i : Nat} (hm : m < 16) (hi : i < 4) : tm_fl m i < 16 := (tq_flN m hm i hi).2.1
theorem tm_fl_pos {m i : Nat} (hm : m < 16) (hi : i < 4) (h : 1 ≤ m) : 1 ≤ tm_fl m i := (tq_flN m hm i hi).2.2 h
/-- the way of a mask: the first of its four flips that the set has -/
theorem tq_way {I : tq_I} {t m : Nat} (hm : m < 16) : (r_X10_wayOf I t m = -1 ∧ ∀ i, i < 4 → bt (I 10 t) (tm_fl m i) = false) ∨ ∃ i, i < 4 ∧ r_X10_wayOf I t m = nI i ∧ bt (I 10 t) (tm_fl m i) = true ∧ ∀ j, j < i → bt (I 10 t) (tm_fl m j) = false := by
  have key : ∀ n i, i + n = 4 → (∀ j, j < i → bt (I 10 t) (tm_fl m j) = false) → (tq_sr (f_way1 I t m) n i (-1) = -1 ∧ ∀ i, i < 4 → bt (I 10 t) (tm_fl m i) = false) ∨ ∃ k, k < 4 ∧ tq_sr (f_way1 I t m) n i (-1) = nI k ∧ bt (I 10 t) (tm_fl m k) = true ∧ ∀ j, j < k → bt (I 10 t) (tm_fl m j) = false := by
    intro n
    induction n with
    | zero => intro i hi h; exact Or.inl ⟨rfl, fun j hj => h j (by omega)⟩
    | succ n ih =>
      intro i hi h
      have hl := tm_fl_lt hm (show i < 4 by omega)
      by_cases hb : bt (I 10 t) (tm_fl m i) = true
      · have hf : f_way1 I t m i = some (nI i) := by
          unfold f_way1
          rw [tm_fl_eq hm (by omega), if_neg]
          intro q
          exact tq_b0.mp q ((tq_bit (by omega)).mpr hb)
        exact Or.inr ⟨i, by omega, tq_sr_some hf, hb, h⟩
      · have hf : f_way1 I t m i = none := by
          unfold f_way1
          rw [tm_fl_eq hm (by omega), if_pos]
          exact tq_b0.mpr (fun q => hb ((tq_bit (by omega)).mp q))
        rw [tq_sr_none hf]
        refine ih (i + 1) (by omega) (fun j hj => ?_)
        by_cases e : j = i
        · subst e; simpa using hb
        · exact h j (by omega)
  exact key 4 0 rfl (fun j hj => absurd hj (Nat.not_lt_zero j))
theorem tq_way_no {I : tq_I} {t m : Nat} (hm : m < 16) : r_X10_wayOf I t m = -1 ↔ ∀ i, i < 4 → bt (I 10 t) (tm_fl m i) = false := by
  constructor
  · intro h
    rcases tq_way (I := I) (t := t) hm with ⟨-, h2⟩ | ⟨i, hi, h2, -⟩
    · exact h2
    · rw [h2] at h
      exact absurd h (tq_nneg1 (by rw [nI_toInt (by omega)]; omega))
  · intro h
    rcases tq_way (I := I) (t := t) hm with ⟨h2, -⟩ | ⟨i, hi, -, h2, -⟩
    · exact h2
    · rw [h i hi] at h2; cases h2
/-- the 32 sets of masks that can be drawn, and what is drawn of each mask then -/
def tq_drT : List Nat := [32768, 33046, 36872, 37150, 33824, 34102, 37928, 38206, 33344, 33622, 37448, 37726, 34400, 34678, 38504, 38782, 59520, 59798, 63624, 63902, 60576, 60854, 64680, 64958, 60096, 60374, 64200, 64478, 61152, 61430, 65256, 65534]
def tq_ftT : List (List Nat) := [[32768, 32768, 32768, 32768, 32768, 32768, 32768, 32768, 32768, 32768, 32768, 32768, 32768, 32768, 32768], [2, 4, 6, 16, 18, 20, 22, 256, 258, 260, 262, 272, 274, 276, 32768], [32768, 32768, 8, 32768, 32768, 32768, 32768, 32768, 32768, 32768, 32768, 4096, 32768, 32768, 32768], [2, 4, 8, 16, 18, 20, 24, 256, 258, 260, 264, 4096, 4098, 4100, 32768], [32768, 32768, 32768, 32768, 32, 32768, 32768, 32768, 32768, 1024, 32768, 32768, 32768, 32768, 32768], [2, 4, 6, 16, 32, 20, 36, 256, 258, 1024, 1026, 272, 288, 1040, 32768], [32768, 32768, 8, 32768, 32, 32768, 40, 32768, 32768, 1024, 1032, 4096, 4128, 5120, 32768], [2, 4, 8, 16, 32, 20, 36, 256, 258, 1024, 1026, 4096, 4098, 4100, 32768], [32768, 32768, 32768, 32768, 32768, 64, 32768, 32768, 512, 32768, 32768, 32768, 32768, 32768, 32768], [2, 4, 6, 16, 18, 64, 66, 256, 512, 260, 516, 272, 528, 320, 32768], [32768, 32768, 8, 32768, 32768, 64, 72, 32768, 512, 32768, 520, 4096, 4608, 4160, 32768], [2, 4, 8, 16, 18, 64, 66, 256, 512, 260, 516, 4096, 4098, 4100, 32768], [32768, 32768, 32768, 32768, 32, 64, 96, 32768, 512, 1024, 1536, 32768, 544, 1088, 32768], [2, 4, 6, 16, 32, 64, 66, 256, 512, 1024, 1026, 272, 528, 1040, 32768], [32768, 32768, 8, 32768, 32, 64, 40, 32768, 512, 1024, 520, 4096, 544, 1088, 32768], [2, 4, 8, 16, 32, 64, 66, 256, 512, 1024, 1026, 4096, 4098, 4100, 32768], [32768, 32768, 32768, 32768, 32768, 32768, 128, 32768, 32768, 32768, 2048, 32768, 8192, 16384, 32768], [2, 4, 6, 16, 18, 20, 128, 256, 258, 260, 2048, 272, 8192, 16384, 32768], [32768, 32768, 8, 32768, 32768, 32768, 128, 32768, 32768, 32768, 2048, 4096, 8192, 16384, 32768], [2, 4, 8, 16, 18, 20, 128, 256, 258, 260, 2048, 4096, 8192, 16384, 32768], [32768, 32768, 32768, 32768, 32, 32768, 128, 32768, 32768, 1024, 2048, 32768, 8192, 16384, 32768], [2, 4, 6, 16, 32, 20, 128, 256, 258, 1024, 2048, 272, 8192, 16384, 32768], [32768, 32768, 8, 32768, 32, 32768, 128, 32768, 32768, 1024, 2048, 4096, 8192, 16384, 32768], [2, 4, 8, 16, 32, 20, 128, 256, 258, 1024, 2048, 4096, 8192, 16384, 32768], [32768, 32768, 32768, 32768, 32768, 64, 128, 32768, 512, 32768, 2048, 32768, 8192, 16384, 32768], [2, 4, 6, 16, 18, 64, 128, 256, 512, 260, 2048, 272, 8192, 16384, 32768], [32768, 32768, 8, 32768, 32768, 64, 128, 32768, 512, 32768, 2048, 4096, 8192, 16384, 32768], [2, 4, 8, 16, 18, 64, 128, 256, 512, 260, 2048, 4096, 8192, 16384, 32768], [32768, 32768, 32768, 32768, 32, 64, 128, 32768, 512, 1024, 2048, 32768, 8192, 16384, 32768], [2, 4, 6, 16, 32, 64, 128, 256, 512, 1024, 2048, 272, 8192, 16384, 32768], [32768, 32768, 8, 32768, 32, 64, 128, 32768, 512, 1024, 2048, 4096, 8192, 16384, 32768], [2, 4, 8, 16, 32, 64, 128, 256, 512, 1024, 2048, 4096, 8192, 16384, 32768]]
def tq_dr (b : Nat) : Nat := tq_drT.getD b 0
def tq_ft (b m : Nat) : Nat := (tq_ftT.getD b []).getD (m - 1) 0
set_option maxRecDepth 100000 in
theorem tq_ft_ok : ∀ b, b < 32 → ∀ m, m < 15 → r_X10_fewestParts (nI (tq_dr b)) (m + 1) = nI (tq_ft b (m + 1)) := by decide +kernel
theorem tq_itC {α : Type} {f g : Nat → α → α} (N : Nat) (h : ∀ i a, i < N → f i a = g i a) : ∀ (n i : Nat) (a : α), i + n ≤ N → tq_it f n i a = tq_it g n i a
  | 0, _, _, _ => rfl
  | n + 1, i, a, hi => by rw [tq_its, tq_its, h i a (by omega)]; exact tq_itC N h n (i + 1) _ (by omega)
def tm_sel (A B C D E : Bool) (m : Nat) : Bool := match m with
  | 1 => A
  | 2 => A
  | 4 => A
  | 8 => A
  | 3 => B
  | 12 => B
  | 5 => C
  | 10 => C
  | 6 => D
  | 9 => D
  | 7 => E
  | 11 => E
  | 13 => E
  | 14 => E
  | _ => true
def tm_ix (A B C D E : Bool) : Nat := A.toNat + 2 * B.toNat + 4 * C.toNat + 8 * D.toNat + 16 * E.toNat
def tm_drf (A B C D E : Bool) : Int32 := tq_it (fun i a => if tm_sel A B C D E (1 + i) = false then a else (a ||| ((nI 1) <<< ((nI (1 + i)) &&& 31)))) 15 0 (nI 0)
theorem tm_drf_ok : ∀ A B C D E : Bool, tm_drf A B C D E = nI (tq_dr (tm_ix A B C D E)) ∧ tm_ix A B C D E < 32 ∧ ∀ m, m < 16 → 1 ≤ m → bt (nI (tq_dr (tm_ix A B C D E))) m = tm_sel A B C D E m := by decide +kernel
/-- a mask can be drawn with the tiles of a set -/
def tm_draw (s : Int32) (m : Nat) : Prop := ∃ i, i < 4 ∧ bt s (tm_fl m i) = true
theorem tm_draw_iff {I : tq_I} {t m : Nat} (hm : m < 16) : ¬ r_X10_wayOf I t m = -1 ↔ tm_draw (I 10 t) m := by
  rw [tq_way_no hm]
  constructor
  · intro h
    refine Classical.byContradiction (fun q => h (fun i hi => ?_))
    cases hb : bt (I 10 t) (tm_fl m i) with
    | false => rfl
    | true => exact absurd ⟨i, hi, hb⟩ q
  · rintro ⟨i, hi, h⟩ q
    rw [q i hi] at h
    cases h
theorem tm_orb {s : Int32} {m r : Nat} (h : ∀ i, i < 4 → ∃ j, j < 4 ∧ tm_fl m i = tm_fl r j) (h0 : tm_draw s m) : tm_draw s r := by
  obtain ⟨i, hi, hb⟩ := h0
  obtain ⟨j, hj, e⟩ := h i hi
  exact ⟨j, hj, by rw [← e]; exact hb⟩
noncomputable def tm_bo (p : Prop) : Bool := @decide p (Classical.propDecidable p)
theorem tm_bo_t {p : Prop} : tm_bo p = true ↔ p := by unfold tm_bo; simp
theorem tm_bo_e {p q : Prop} (h : p ↔ q) : tm_bo p = tm_bo q := by
  cases hq : tm_bo q with
  | true => exact tm_bo_t.mpr (h.mpr (tm_bo_t.mp hq))
  | false =>
    cases hp : tm_bo p with
    | false => rfl
    | true =>
      have := tm_bo_t.mpr (h.mp (tm_bo_t.mp hp))
      rw [hq] at this; cases this
theorem tm_selway {s : Int32} (h15 : bt s 15 = true) {m : Nat} (h1 : 1 ≤ m) (hm : m < 16) : tm_sel (tm_bo (tm_draw s 1)) (tm_bo (tm_draw s 3)) (tm_bo (tm_draw s 5)) (tm_bo (tm_draw s 6)) (tm_bo (tm_draw s 7)) m = tm_bo (tm_draw s m) := by
  rcases (show m = 1 ∨ m = 2 ∨ m = 3 ∨ m = 4 ∨ m = 5 ∨ m = 6 ∨ m = 7 ∨ m = 8 ∨ m = 9 ∨ m = 10 ∨ m = 11 ∨ m = 12 ∨ m = 13 ∨ m = 14 ∨ m = 15 by omega) with rfl | rfl | rfl | rfl | rfl | rfl | rfl | rfl | rfl | rfl | rfl | rfl | rfl | rfl | rfl
  case inr.inr.inr.inr.inr.inr.inr.inr.inr.inr.inr.inr.inr.inr =>
    exact (tm_bo_t.mpr ⟨0, by decide, by rw [show tm_fl 15 0 = 15 from by decide +kernel]; exact h15⟩).symm
  all_goals first | rfl | exact tm_bo_e ⟨tm_orb (by decide +kernel), tm_orb (by decide +kernel)⟩
/-- the tiles of a terrain: what is kept of its parts is what its set makes -/
def tm_tiles (s : Int32) (Q : Nat → Int32) : Prop := bt s 15 = true ∧ ∃ b, b < 32 ∧ (∀ m, 1 ≤ m → m < 16 → (bt (nI (tq_dr b)) m = true ↔ tm_draw s m)) ∧ ∀ m, 1 ≤ m → m < 16 → Q m = nI (tq_ft b m)
theorem tm_s15 (s : Int32) : bt ((s &&& (-2)) ||| (nI 32768)) 15 = true := by
  rw [b_or, show bt (nI 32768) 15 = true from by decide +kernel]
  simp
theorem tm_ch2 {t : Nat} {s dr : Int32} : ∀ (n i : Nat) (a : tq_I) (j : Nat), tq_it (f_ch2 t s dr) n i a 11 j = if t * 16 + (1 + i) ≤ j ∧ j < t * 16 + (1 + i) + n then r_X10_fewestParts dr (j - t * 16) else a 11 j
  | 0, i, a, j => by
    rw [if_neg (by omega)]
    rfl
  | n + 1, i, a, j => by
    rw [tq_its, tm_ch2 n (i + 1) _ j]
    by_cases h : t * 16 + (1 + (i + 1)) ≤ j ∧ j < t * 16 + (1 + (i + 1)) + n
    · rw [if_pos h, if_pos (by omega)]
    · rw [if_neg h]
      simp only [f_ch2]
      by_cases e : j = t * 16 + (1 + i)
      · subst e
        rw [tq_u_same, if_pos (by omega)]
        congr 1
        omega
      · rw [tq_u_slot e, if_neg (by omega)]
theorem tm_choose {I : tq_I} {t : Nat} {s : Int32} : tm_tiles ((s &&& (-2)) ||| (nI 32768)) (fun m => I_X10_choose I t s 11 (t * 16 + m)) := by
  refine ⟨tm_s15 s, ?_⟩
  generalize hK : tq_u I 10 t ((s &&& (-2)) ||| (nI 32768)) = K
  have hs : K 10 t = (s &&& (-2)) ||| (nI 32768) := by rw [← hK, tq_u_same]
  have h15 : bt (K 10 t) 15 = true := by rw [hs]; exact tm_s15 s
  have e1 : tq_it (f_ch1 K t s) 15 0 (nI 0) = tm_drf (tm_bo (tm_draw (K 10 t) 1)) (tm_bo (tm_draw (K 10 t) 3)) (tm_bo (tm_draw (K 10 t) 5)) (tm_bo (tm_draw (K 10 t) 6)) (tm_bo (tm_draw (K 10 t) 7)) := by
    refine tq_itC 15 (fun i a hi => ?_) 15 0 _ (by omega)
    unfold f_ch1
    have h2 := tm_selway h15 (show 1 ≤ 1 + i by omega) (by omega)
    by_cases hw : r_X10_wayOf K t (1 + i) = -1
    · have h3 : ¬ tm_draw (K 10 t) (1 + i) := fun q => (tm_draw_iff (by omega)).mpr q hw
      rw [if_pos hw, if_pos]
      rw [h2]
      cases hb : tm_bo (tm_draw (K 10 t) (1 + i)) with
      | false => rfl
      | true => exact absurd (tm_bo_t.mp hb) h3
    · have h3 := tm_bo_t.mpr ((tm_draw_iff (I := K) (t := t) (show 1 + i < 16 by omega)).mp hw)
      rw [if_neg hw, if_neg]
      rw [h2, h3]
      intro q; cases q
  obtain ⟨d1, d2, d3⟩ := tm_drf_ok (tm_bo (tm_draw (K 10 t) 1)) (tm_bo (tm_draw (K 10 t) 3)) (tm_bo (tm_draw (K 10 t) 5)) (tm_bo (tm_draw (K 10 t) 6)) (tm_bo (tm_draw (K 10 t) 7))
  refine ⟨_, d2, fun m h1 hm => ?_, fun m h1 hm => ?_⟩
  · rw [d3 m hm h1, tm_selway h15 h1 hm, tm_bo_t, hs]
  · show I_X10_choose I t s 11 (t * 16 + m) = _
    unfold I_X10_choose
    rw [hK, e1, d1, tm_ch2, if_pos (by omega), show t * 16 + m - t * 16 = m - 1 + 1 by omega]
    have := tq_ft_ok _ d2 (m - 1) (by omega)
    rw [this]
    congr 2
    omega
theorem tm_part0 : ∀ b, b < 32 → ∀ m, m < 15 → ∀ q, q < 15 → (bt (nI (tq_ft b (m + 1))) (q + 1) && !bt (nI (tq_dr b)) (q + 1)) = false := by decide +kernel
theorem tm_part (b : Nat) (hb : b < 32) (m : Nat) (hm : m < 16) (h1 : 1 ≤ m) (q : Nat) (hq : q < 16) (h2 : 1 ≤ q) (h : bt (nI (tq_ft b m)) q = true) : bt (nI (tq_dr b)) q = true := by
  have h3 := tm_part0 b hb (m - 1) (by omega) (q - 1) (by omega)
  rw [show m - 1 + 1 = m by omega, show q - 1 + 1 = q by omega, h] at h3
  simpa using h3
theorem tm_code0 : ∀ t, t < 6 → ∀ tile, tile < 15 → ∀ turn, turn < 4 → ∀ v, v < 8 → decide (0 ≤ (r_X11_codeOfPiece (nI t) (nI (tile + 1)) (nI turn) (nI v)).toInt ∧ (r_X11_codeOfPiece (nI t) (nI (tile + 1)) (nI turn) (nI v)).toInt ≤ 383) = true := by decide +kernel
theorem tm_code {t tile turn v : Nat} (ht : t < 6) (h2 : tile < 16) (h1 : 1 ≤ tile) (h3 : turn < 4) (h4 : v < 8) : 0 ≤ (r_X11_codeOfPiece (nI t) (nI tile) (nI turn) (nI v)).toInt ∧ (r_X11_codeOfPiece (nI t) (nI tile) (nI turn) (nI v)).toInt ≤ 383 := by
  have := of_decide_eq_true (tm_code0 t ht (tile - 1) (by omega) turn h3 v h4)
  rw [show tile - 1 + 1 = tile by omega] at this
  exact this
theorem tm_nn {v : Int32} (h : bt v 31 = false) : 0 ≤ v.toInt := by
  have h2 : v.toBitVec.msb = false := by rw [BitVec.msb_eq_getLsbD_last]; exact h
  show 0 ≤ v.toBitVec.toInt
  rw [BitVec.toInt_eq_msb_cond, h2]
  simp
theorem tm_ush1 (v : Int32) : 0 ≤ (tq_ush v (nI 1)).toInt := by
  refine tm_nn ?_
  unfold tq_ush
  rw [b_ushr 1 (by decide) v 31]
  exact b_big (by decide)
theorem tm_rem {v : Int32} {k : Nat} (h : 0 ≤ v.toInt) (h1 : 1 ≤ k) (h2 : k ≤ 8) : tq_rem v (nI k) = nI (tq_N v % k) := by
  have h3 : v.toInt < 2 ^ 31 := Int32.toInt_lt v
  have h4 : tq_N v < 2 ^ 31 := by unfold tq_N; omega
  conv => lhs; rw [tq_nIN h]
  exact tq_rem_nI h4 (by omega)
theorem tm_var {I : tq_I} {t x y : Nat} (h : 1 ≤ (I 8 t).toInt ∧ (I 8 t).toInt ≤ 8) : ∃ v, v < 8 ∧ r_X6_variantOf I t x y = nI v := by
  unfold r_X6_variantOf
  split
  · have e := tq_nIN (show 0 ≤ (I 8 t).toInt by omega)
    have hk : 1 ≤ tq_N (I 8 t) ∧ tq_N (I 8 t) ≤ 8 := by unfold tq_N; omega
    rw [e, tm_rem (tm_ush1 _) hk.1 hk.2]
    exact ⟨_, Nat.lt_of_lt_of_le (Nat.mod_lt _ hk.1) hk.2, rfl⟩
  · exact ⟨0, by decide, rfl⟩
theorem tm_piece {a : tq_I} {t q v : Nat} (ht : t ≤ 5) (hq : q < 16) (h1 : 1 ≤ q) (hd : tm_draw (a 10 t) q) (hv : v < 8) : 0 ≤ (r_X11_codeOfPiece (nI t) (r_X10_flip (nI q) (r_X10_wayOf a t q)) (r_X10_wayOf a t q) (nI v)).toInt ∧ (r_X11_codeOfPiece (nI t) (r_X10_flip (nI q) (r_X10_wayOf a t q)) (r_X10_wayOf a t q) (nI v)).toInt ≤ 383 := by
  rcases tq_way (I := a) (t := t) hq with ⟨h2, h3⟩ | ⟨i, hi, h2, -⟩
  · exact absurd h2 ((tm_draw_iff hq).mpr hd)
  · rw [h2, tm_fl_eq hq hi]
    exact tm_code (by omega) (tm_fl_lt hq hi) (tm_fl_pos hq hi h1) hi hv
/-- the rules are sound: tiles and variants of every terrain -/
def tm_rul (I : tq_I) : Prop := ∀ t, t < 6 → tm_tiles (I 10 t) (fun m => I 11 (t * 16 + m)) ∧ 1 ≤ (I 8 t).toInt ∧ (I 8 t).toInt ≤ 8
theorem tm_rul.cong {I K : tq_I} (h : tm_rul I) (h1 : ∀ j, K 10 j = I 10 j) (h2 : ∀ j, K 11 j = I 11 j) (h3 : ∀ j, K 8 j = I 8 j) : tm_rul K := by
  intro t ht
  have e : (fun m => K 11 (t * 16 + m)) = (fun m => I 11 (t * 16 + m)) := funext fun m => h2 _
  rw [h1, h3, e]
  exact h t ht
/-- the codes drawn so far are sound -/
def tm_dc (a : tq_I) : Prop := (0 ≤ (a 102 5).toInt ∧ (a 102 5).toInt ≤ 7) ∧ ∀ k, k < tq_N (a 102 5) → 0 ≤ (a 106 k).toInt ∧ (a 106 k).toInt ≤ 383
theorem tm_dc_put {a : tq_I} {v : Int32} (h : tm_dc a) (hv : 0 ≤ v.toInt ∧ v.toInt ≤ 383) (h7 : ¬ (nI 7) ≤ a 102 5) : tm_dc (tq_u (tq_u a 106 (tq_N (a 102 5)) v) 102 5 (((tq_u a 106 (tq_N (a 102 5)) v) 102 5) + (nI 1))) := by
  obtain ⟨h1, h2⟩ := h
  have hl : (a 102 5).toInt < 7 := by simp (disch := omega) only [Int32.le_iff_toInt_le, nI_toInt] at h7; omega
  obtain ⟨e1, e2⟩ := tq_incr (m := 7) h1.1 (by omega) (by decide)
  have e3 : tq_u (tq_u a 106 (tq_N (a 102 5)) v) 102 5 (((tq_u a 106 (tq_N (a 102 5)) v) 102 5) + (nI 1)) 102 5 = a 102 5 + nI 1 := by rw [tq_u_same, tq_u_cell (by decide)]
  refine ⟨by rw [e3, e1]; omega, fun k hk => ?_⟩
  rw [e3, e2] at hk
  rw [tq_u_cell (by decide)]
  by_cases hkk : k = tq_N (a 102 5)
  · rw [hkk, tq_u_same]; exact hv
  · rw [tq_u_slot hkk]
    exact h2 k (by omega)
theorem tm_dp {x y t m : Nat} {ps : Int32} (ht : t ≤ 5) (n i : Nat) (a : tq_I) (hi : i + n ≤ 15) (hr : tm_rul a) (hps : ∀ q, 1 ≤ q → q < 16 → bt ps q = true → tm_draw (a 10 t) q) (h : tm_dc a) : tm_dc (tq_it (f_dp1 x y t m ps) n i a) := by
  refine (tq_itB (fun b => tm_dc b ∧ (∀ j, b 10 j = a 10 j) ∧ (∀ j, b 11 j = a 11 j) ∧ (∀ j, b 8 j = a 8 j)) 15 (fun i b hi hb => ?_) n i a hi ⟨h, fun _ => rfl, fun _ => rfl, fun _ => rfl⟩).1
  obtain ⟨h1, h2, h3, h4⟩ := hb
  have hrb : tm_rul b := hr.cong h2 h3 h4
  unfold f_dp1
  split
  · exact ⟨h1, h2, h3, h4⟩
  · rename_i hq
    have hq1 := tq_b10 hq
    have hq2 : bt ps (1 + i) = true := (tq_bit (by omega)).mp hq1
    have hd : tm_draw (b 10 t) (1 + i) := by rw [h2]; exact hps _ (by omega) (by omega) hq2
    split
    · exact ⟨h1, h2, h3, h4⟩
    · rename_i h7
      split
      · obtain ⟨v, hv, e⟩ := tm_var (I := b) (t := t) (x := x) (y := y) (hrb t (by omega)).2
        rw [e]
        exact ⟨tm_dc_put h1 (tm_piece ht (by omega) (by omega) hd hv) h7, fun j => by rw [tq_u_cell (by decide), tq_u_cell (by decide)]; exact h2 j, fun j => by rw [tq_u_cell (by decide), tq_u_cell (by decide)]; exact h3 j, fun j => by rw [tq_u_cell (by decide), tq_u_cell (by decide)]; exact h4 j⟩
      · exact ⟨tm_dc_put h1 (tm_piece ht (by omega) (by omega) hd (by decide)) h7, fun j => by rw [tq_u_cell (by decide), tq_u_cell (by decide)]; exact h2 j, fun j => by rw [tq_u_cell (by decide), tq_u_cell (by decide)]; exact h3 j, fun j => by rw [tq_u_cell (by decide), tq_u_cell (by decide)]; exact h4 j⟩
theorem tm_dpI {a : tq_I} {x y t m : Nat} (ht : t ≤ 5) (h1 : 1 ≤ m) (hm : m < 16) (hr : tm_rul a) (h : tm_dc a) : tm_dc (I_X7_drawPieces a x y t m) := by
  refine tm_dp ht 15 0 a (by omega) hr (fun q g1 g2 g3 => ?_) h
  obtain ⟨-, b, hb, h3, h4⟩ := (hr t (by omega)).1
  rw [show a 11 (t * 16 + m) = nI (tq_ft b m) from h4 m h1 hm] at g3
  exact (h3 q g1 g2).mp (tm_part b hb m hm h1 q g2 g1 g3)
