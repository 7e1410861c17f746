/-! stores: fields, arrays; array reads -/
section TQ2
variable {g : tq_G} {μ : tq_M} {x : tq_X} {k n pc : Nat} {lv : List (Option Value)} {st : List Value} {sh : List tq_S} {R : tq_R} {I : tq_I} {J : Int64}
theorem tq_at.kept {s : tq_S} {a : Nat} {H H1 : Heap} (h : tq_at g R I J s a H) (hq : H1[tq_gs g + a]? = H[tq_gs g + a]?) : tq_at g R I J s a H1 := by
  match s, h with
  | .inl c, h => exact t_OB.kept h hq
  | .inr (t, m), h => exact hq.trans h
/-- one cell changed -/
theorem tq_J.set {R' : tq_R} {I' : tq_I} {J' : Int64} {a : Nat} {s : tq_S} {H H1 : Heap} (hJ : tq_J g sh R I J H) (hs : sh[a]? = some s) (hz : H1.size = H.size) (ho : ∀ q, q ≠ tq_gs g + a → H1[q]? = H[q]?) (hn : tq_at g R' I' J' s a H1)
    (hk : ∀ (b : Nat) (u : tq_S), b ≠ a → sh[b]? = some u → tq_at g R I J u b H → tq_at g R' I' J' u b H) : tq_J g sh R' I' J' H1 := by
  refine ⟨by rw [hz]; exact hJ.1, hJ.2.1, fun b u hu => ?_, fun q hq => ?_⟩
  · by_cases hb : b = a
    · subst hb
      cases hs.symm.trans hu
      exact hn
    · exact tq_at.kept (hk b u hb hu (hJ.2.2.1 b u hu)) (ho _ (by omega))
  · rw [ho q (by omega)]
    exact hJ.2.2.2 q hq
theorem tq_at.cong {R' : tq_R} {I' : tq_I} {J' : Int64} {u : tq_S} {b : Nat} {H : Heap} (hI : ∀ j, I' b j = I b j) (hR : ∀ j, R' b j = R b j) (hl : ∀ c, u = .inl c → ∀ j, tq_ty c j = .long → J' = J) (h : tq_at g R I J u b H) : tq_at g R' I' J' u b H := by
  match u, h with
  | .inl c, h =>
    refine t_OB.to h (fun j _ => ?_)
    have := hl c rfl j
    unfold tq_fv tq_av
    cases hty : tq_ty c j <;> simp_all
  | .inr (t, m), h =>
    have e : tq_arr g R' I' t m b = tq_arr g R I t m b := by
      unfold tq_arr
      simp only [hI, hR]
    show H[_]? = some _
    rw [e]
    exact h
theorem tq_locs {locs : List Loc} {a j : Nat} (hq : ∀ q ∈ locs, tq_gs g ≤ q.base) : ∀ q ∈ locs ++ [(⟨tq_gs g + a, j⟩ : Loc)], tq_gs g ≤ q.base := by
  intro q h
  rcases List.mem_append.mp h with h | h
  · exact hq q h
  · rw [List.mem_singleton.mp h]
    exact Nat.le_add_right _ _
/-- a field's store: the rows common to all kinds -/
theorem EV_put0 (C : tq_C g μ x) {own idx c j pl a : Nat} {v : Value} {R' : tq_R} {I' : tq_I} {J' : Int64} (hown : tq_cn own = μ.1.cls) (hf : (own, idx, c, j, pl) ∈ tq_fl ∨ ((own, idx, c, j, pl) ∈ tq_fn ∧ (tq_T c j).2.2.2 = false)) (hd : decode μ.2.1 pc = .ok (.putfield idx, 3)) (hs : sh[a]? = some (.inl c))
    (hfin : (tq_T c j).2.2.2 = false ∨ (μ.1.name = "<init>" ∧ (tq_T c j).1 = μ.1.cls)) (hnar : narrow (tq_ty c j) (tq_v g v) = tq_v g v) (hfit : fits (tq_ty c j) (tq_v g v) = true)
    (hv : tq_av R' I' J' (tq_ty c j) a j = v) (hoth : ∀ i, i ≠ j → tq_av R' I' J' (tq_ty c i) a i = tq_av R I J (tq_ty c i) a i)
    (hk : ∀ (b : Nat) (u : tq_S) (H : Heap), b ≠ a → sh[b]? = some u → tq_at g R I J u b H → tq_at g R' I' J' u b H)
    (kk : EV g μ x k n (pc + 3) lv st sh R' I' J') : EV g μ x k n pc lv (v :: .ref a :: st) sh R I J := by
  intro H locs ls hJ hq hl
  have ha : a < 1000 := Nat.lt_of_lt_of_le ((List.getElem?_eq_some_iff.mp hs).1) hJ.2.1
  have hO : t_OB (tq_gs g + a) ((tq_gD g).1 c) (tq_nf c) ((tq_gD g).2 c) H (fun k => tq_fv g R I J (tq_ty c k) a k) := hJ.2.2.1 a _ hs
  have hc : j < tq_nf c ∧ c < 13 := by
    rcases hf with hf | hf
    · exact (tq_flin hf).2
    · exact tq_fnin hf.1
  obtain ⟨q, hcl, hN, hT⟩ := tq_cl_lt hc.2
  obtain ⟨cell, q1, q2, q3, q4⟩ := hO
  have hK := C.2.2.2.2.2.2.2.2.1
  have hts := C.2.2.2.2.2.2.2.1
  have hap := va_apart (own := μ.1.cls) hts (tq_lay hcl) (tq_ty c) (tq_tys_ok hcl) (tq_nms hcl) hK (show tq_cl[c]? = some (q.1, q.2.1, q.2.2) from hcl)
  obtain ⟨hS, hfc, kC, hkC, hkind⟩ := hK.1 c q hcl
  have hjN : j < q.2.2 := by rw [hN]; exact hc.1
  obtain ⟨cf, kf, fi, f, hi, hsl⟩ := hS j hjN
  have hst := (u_facts hfc hkC (u_lays hts (tq_lay hcl) hjN) hi).1
  have hlay := hts _ (tq_lay hcl _ (u_in_lay hjN))
  unfold u_lay at hlay
  have hty := tq_tys_ok hcl j hjN
  have fin : ∀ H' : Heap, H'[tq_gs g + a]? = some (cell.setSlot f.slot (tq_v g v)) → H'.size = H.size → (∀ q, q ≠ tq_gs g + a → H'[q]? = H[q]?) → tq_J g sh R' I' J' H' := by
    intro H' e1 e2 e3
    refine tq_J.set hJ hs e2 e3 ?_ (fun b u hb hu h => hk b u H hb hu h)
    rw [hsl] at e1
    have h2 := t_set (V := fun k => tq_fv g R I J (tq_ty c k) a k) (N := tq_nf c) q4 (by rw [← hN]; exact hap) hc.1 (tq_v g v)
    refine t_OB.to (V := updV (fun k => tq_fv g R I J (tq_ty c k) a k) j (tq_v g v)) ⟨_, e1, q2, q3, h2⟩ (fun i _ => ?_)
    by_cases hij : i = j
    · subst hij
      simp only [updV, if_pos, tq_fv, hv]
    · simp only [updV, if_neg hij, tq_fv, hoth i hij]
  by_cases hff : (q.2.1 j).2.2.2 = true
  · rw [if_pos hff] at hlay
    have hT' := hT j
    rcases hfin with h0 | ⟨h1, h2⟩
    · rw [hT', hff] at h0; cases h0
    rcases hf with hf | hf
    · have hcf : (tq_xm x).cls = cf := by
        obtain ⟨_, _, c', _, _, _, -, -, hf', -, -, -, hown2, -⟩ := Cond.laysFinal_spec hlay
        have e1 : c' = cf := by have := hi.symm.trans hf'; simp at this; exact this.1.symm
        rw [← hT', h2] at hown2
        rw [← e1]; exact Option.some.inj (C.2.2.2.2.2.2.1.symm.trans hown2)
      have h6 := u_fits hfc hkC hkind (Or.inr hlay) hi hty hnar hfit
      have hw := hts _ (tq_flin hf).1
      simp only [tq_fw, hT, hown] at hw
      refine W.putFinK C.1 C.2.1 C.2.2.2.2.2.2.1 hw hi hst hcf (C.2.2.2.2.2.1.trans h1) (a := tq_gs g + a) (v := tq_v g v) (by rw [q2]; exact h6) q1 q3 (by rw [hsl]; exact k2_hasslot (q4 j hc.1)) rfl (rest := st.map (tq_v g)) (by show (tq_v g v :: .ref (tq_ad g a) :: _) = _; rw [tq_ad_lt ha]) hd fun H' e1 e2 e3 => ?_
      exact kk H' _ ls (fin H' e1 e2 e3) (tq_locs hq) hl
    · rw [hT', hff] at hf; cases hf.2
  · rw [if_neg hff] at hlay
    have h6 := u_store hfc hkC hkind hlay hi hty hnar hfit
    rcases hf with hf | hf
    · have hw := hts _ (tq_flin hf).1
      simp only [tq_fw, hT, hown] at hw
      refine W.putK C.1 C.2.1 (f := f) ⟨C.2.2.2.2.2.2.1, hw, ⟨_, _, _, hi⟩, hst⟩ (a := tq_gs g + a) (v := tq_v g v) (by rw [q2]; exact h6) q1 q3 (by rw [hsl]; exact k2_hasslot (q4 j hc.1)) rfl (rest := st.map (tq_v g)) (by show (tq_v g v :: .ref (tq_ad g a) :: _) = _; rw [tq_ad_lt ha]) hd fun H' e1 e2 e3 => ?_
      exact kk H' _ ls (fin H' e1 e2 e3) (tq_locs hq) hl
    · have hw := va_Nw.use (A := tq_xa x) rfl (C.2.2.2.2.2.2.2.2.2.1 _ hf.1)
      simp only [tq_fnw, hT, hown] at hw
      refine va_WputK C.1 C.2.1 (f := f) C.2.2.2.2.2.2.1 hw hi hst (a := tq_gs g + a) (v := tq_v g v) (by rw [q2]; exact h6) q1 q3 (by rw [hsl]; exact k2_hasslot (q4 j hc.1)) rfl (rest := st.map (tq_v g)) (by show (tq_v g v :: .ref (tq_ad g a) :: _) = _; rw [tq_ad_lt ha]) hd fun H' e1 e2 e3 => ?_
      exact kk H' _ ls (fin H' e1 e2 e3) (tq_locs hq) hl
theorem tq_nar_bool {v : Int32} (h : v = 0 ∨ v = 1) : narrow .boolean (.int v) = .int v ∧ fits .boolean (.int v) = true := by
  rcases h with rfl | rfl <;> exact ⟨by decide, by decide⟩
/-- an int or boolean field -/
theorem EV_puti (C : tq_C g μ x) {own idx c j pl a : Nat} {v : Int32} (hown : tq_cn own = μ.1.cls) (hf : (own, idx, c, j, pl) ∈ tq_fl ∨ ((own, idx, c, j, pl) ∈ tq_fn ∧ (tq_T c j).2.2.2 = false)) (hd : decode μ.2.1 pc = .ok (.putfield idx, 3)) (hs : sh[a]? = some (.inl c))
    (hfin : (tq_T c j).2.2.2 = false) (hty : tq_ty c j = .int ∨ (tq_ty c j = .boolean ∧ (v = 0 ∨ v = 1)))
    (kk : EV g μ x k n (pc + 3) lv st sh R (tq_u I a j v) J) : EV g μ x k n pc lv (.int v :: .ref a :: st) sh R I J := by
  refine EV_put0 C hown hf hd hs (Or.inl hfin) (v := .int v) (R' := R) (I' := tq_u I a j v) (J' := J) ?_ ?_ ?_ ?_ ?_ kk
  · rcases hty with h | ⟨h, h2⟩
    · rw [h]; exact vp_nar_int v
    · rw [h]; exact (tq_nar_bool h2).1
  · rcases hty with h | ⟨h, h2⟩
    · rw [h]; rfl
    · rw [h]; exact (tq_nar_bool h2).2
  · rcases hty with h | ⟨h, h2⟩ <;> rw [h] <;> simp [tq_av, tq_u]
  · intro i hi
    unfold tq_av
    simp only [tq_u_slot hi]
  · intro b u H hb hu h
    exact tq_at.cong (fun j => tq_u_cell hb) (fun _ => rfl) (fun _ _ _ _ => rfl) h
/-- the long field -/
theorem tq_one_long : ∀ c, c < 13 → ∀ j, j < tq_nf c → tq_ty c j = .long → c = 12 := by decide +kernel
/-- a reference field, in a constructor -/
def tq_uR (R : tq_R) (a k : Nat) (v : Option Nat) : tq_R := fun b j => if b = a ∧ j = k then v else R b j
theorem EV_putr (C : tq_C g μ x) {own idx c j pl a b : Nat} (hown : tq_cn own = μ.1.cls) (hf : (own, idx, c, j, pl) ∈ tq_fl) (hd : decode μ.2.1 pc = .ok (.putfield idx, 3)) (hs : sh[a]? = some (.inl c))
    (hfin : (tq_T c j).2.2.2 = false ∨ (μ.1.name = "<init>" ∧ (tq_T c j).1 = μ.1.cls)) (hty : (∃ t, tq_ty c j = .array t) ∨ ∃ t, tq_ty c j = .object t)
    (kk : EV g μ x k n (pc + 3) lv st sh (tq_uR R a j (some b)) I J) : EV g μ x k n pc lv (.ref b :: .ref a :: st) sh R I J := by
  refine EV_put0 C hown (Or.inl hf) hd hs hfin (v := .ref b) (R' := tq_uR R a j (some b)) (I' := I) (J' := J) ?_ ?_ ?_ ?_ ?_ kk
  · rcases hty with ⟨t, h⟩ | ⟨t, h⟩ <;> rw [h] <;> rfl
  · rcases hty with ⟨t, h⟩ | ⟨t, h⟩ <;> rw [h] <;> rfl
  · rcases hty with ⟨t, h⟩ | ⟨t, h⟩ <;> rw [h] <;> simp [tq_av, tq_uR, tq_ov]
  · intro i hi
    unfold tq_av
    simp only [tq_uR, hi, and_false, if_false]
  · intro e u H he hu h
    exact tq_at.cong (fun j => rfl) (fun j => by simp [tq_uR, he]) (fun _ _ _ _ => rfl) h
/-! arrays -/
theorem tq_in {i : Int32} {j m : Nat} (hi : i.toInt = (j : Int)) (hj : j < m) : ¬ (i < 0 ∨ m ≤ i.toNatClampNeg) ∧ i.toNatClampNeg = j := by
  have h1 : i.toNatClampNeg = j := by
    show i.toInt.toNat = j
    omega
  refine ⟨?_, h1⟩
  rintro (h | h)
  · have := Int32.lt_iff_toInt_lt.mp h
    simp at this
    omega
  · omega
theorem EV_iald (C : tq_C g μ x) {a m j : Nat} {i : Int32} (hd : decode μ.2.1 pc = .ok (.iaload, 1)) (hs : sh[a]? = some (.inr (0, m))) (hi : i.toInt = (j : Int)) (hj : j < m) (kk : EV g μ x k n (pc + 1) lv (.int (I a j) :: st) sh R I J) : EV g μ x k n pc lv (.int i :: .ref a :: st) sh R I J := by
  intro H locs ls hJ hq hl
  have ha : a < 1000 := Nat.lt_of_lt_of_le ((List.getElem?_eq_some_iff.mp hs).1) hJ.2.1
  have hc : H[tq_gs g + a]? = some (arrV (tq_gA g 0) m (fun j => .int (I a j))) := hJ.2.2.1 a _ hs
  have hK := C.2.2.2.2.2.2.2.2.1
  obtain ⟨h1, h2⟩ := tq_in hi hj
  refine W.iald (v := .int (I a j)) (a := tq_ad g a) C.1 C.2.1 (by rw [tq_ad_lt ha]; exact hc) ((hK.2 0 (tq_gA g 0, .int) rfl).1 m _) (fun q => by cases q) (by rw [arrV_size]; exact h1) (by rw [h2, arrV_read _ _ hj]) rfl rfl hd (kk H locs ls hJ hq hl)
theorem EV_zald (C : tq_C g μ x) {a m j : Nat} {i : Int32} (hd : decode μ.2.1 pc = .ok (.baload, 1)) (hs : sh[a]? = some (.inr (1, m))) (hi : i.toInt = (j : Int)) (hj : j < m) (kk : EV g μ x k n (pc + 1) lv (.int (I a j) :: st) sh R I J) : EV g μ x k n pc lv (.int i :: .ref a :: st) sh R I J := by
  intro H locs ls hJ hq hl
  have ha : a < 1000 := Nat.lt_of_lt_of_le ((List.getElem?_eq_some_iff.mp hs).1) hJ.2.1
  have hc : H[tq_gs g + a]? = some (arrV (tq_gA g 1) m (fun j => .int (I a j))) := hJ.2.2.1 a _ hs
  have hK := C.2.2.2.2.2.2.2.2.1
  obtain ⟨h1, h2⟩ := tq_in hi hj
  refine W.zald (v := .int (I a j)) (a := tq_ad g a) C.1 C.2.1 (by rw [tq_ad_lt ha]; exact hc) ((hK.2 1 (tq_gA g 1, .boolean) rfl).1 m _) (fun q => by cases q) (by rw [arrV_size]; exact h1) (by rw [h2, arrV_read _ _ hj]) rfl rfl hd (kk H locs ls hJ hq hl)
theorem EV_aald (C : tq_C g μ x) {a m j b : Nat} {i : Int32} (hd : decode μ.2.1 pc = .ok (.aaload, 1)) (hs : sh[a]? = some (.inr (2, m))) (hi : i.toInt = (j : Int)) (hj : j < m) (hb : R a j = some b) (kk : EV g μ x k n (pc + 1) lv (.ref b :: st) sh R I J) : EV g μ x k n pc lv (.int i :: .ref a :: st) sh R I J := by
  intro H locs ls hJ hq hl
  have ha : a < 1000 := Nat.lt_of_lt_of_le ((List.getElem?_eq_some_iff.mp hs).1) hJ.2.1
  have hc : H[tq_gs g + a]? = some (arrV (tq_gA g 2) m (fun j => va_rf ((R a j).map (tq_ad g)))) := hJ.2.2.1 a _ hs
  have hK := C.2.2.2.2.2.2.2.2.1
  obtain ⟨h1, h2⟩ := tq_in hi hj
  refine W.aald (v := .ref (tq_ad g b)) (a := tq_ad g a) (ty := .object RX8) C.1 C.2.1 (by rw [tq_ad_lt ha]; exact hc) ((hK.2 2 (tq_gA g 2, .object RX8) rfl).1 m _) rfl (fun q => by cases q) (by rw [arrV_size]; exact h1) (by rw [h2, arrV_read _ _ hj, hb]; rfl) rfl rfl hd (kk H locs ls hJ hq hl)
theorem tq_arr_set {t m a j : Nat} {v : Int32} {I : tq_I} (ht : t = 0 ∨ t = 1) (hj : j < m) : (arrV (tq_gA g t) m (fun j => .int (I a j))).setSlot j (.int v) = tq_arr g R (tq_u I a j v) t m a := by
  have e : ∀ cA : ClassId, (arrV cA m (fun j => .int (I a j))).setSlot j (.int v) = arrV cA m (fun q => .int (tq_u I a j v a q)) := by
    intro cA
    rw [arrV_store]
    congr 1
    funext q
    by_cases hq : q = j
    · subst hq; simp [updV, tq_u]
    · simp [updV, tq_u, hq]
  rcases ht with rfl | rfl <;> exact e _
theorem EV_iast (C : tq_C g μ x) {a m j : Nat} {i v : Int32} (hd : decode μ.2.1 pc = .ok (.iastore, 1)) (hs : sh[a]? = some (.inr (0, m))) (hi : i.toInt = (j : Int)) (hj : j < m) (kk : EV g μ x k n (pc + 1) lv st sh R (tq_u I a j v) J) : EV g μ x k n pc lv (.int v :: .int i :: .ref a :: st) sh R I J := by
  intro H locs ls hJ hq hl
  have ha : a < 1000 := Nat.lt_of_lt_of_le ((List.getElem?_eq_some_iff.mp hs).1) hJ.2.1
  have hc : H[tq_gs g + a]? = some (arrV (tq_gA g 0) m (fun j => .int (I a j))) := hJ.2.2.1 a _ hs
  have hK := C.2.2.2.2.2.2.2.2.1
  obtain ⟨h1, h2⟩ := tq_in hi hj
  refine W.iast (x := v) (a := tq_gs g + a) C.1 C.2.1 hc ((hK.2 0 (tq_gA g 0, .int) rfl).1 m _) (fun q => by cases q) (by rw [arrV_size]; exact h1) rfl (rest := st.map (tq_v g)) (by show (Value.int v :: .int i :: .ref (tq_ad g a) :: _) = _; rw [tq_ad_lt ha]) hd fun H1 e z oq => ?_
  rw [h2] at e ⊢
  refine kk H1 _ ls (tq_J.set hJ hs z oq ?_ (fun b u hb hu h => tq_at.cong (fun j => tq_u_cell hb) (fun _ => rfl) (fun _ _ _ _ => rfl) h)) (tq_locs hq) hl
  exact e.trans (congrArg some (tq_arr_set (R := R) (Or.inl rfl) hj))
theorem EV_zast (C : tq_C g μ x) {a m j : Nat} {i v : Int32} (hd : decode μ.2.1 pc = .ok (.bastore, 1)) (hs : sh[a]? = some (.inr (1, m))) (hi : i.toInt = (j : Int)) (hj : j < m) (hv : v = 0 ∨ v = 1) (kk : EV g μ x k n (pc + 1) lv st sh R (tq_u I a j v) J) : EV g μ x k n pc lv (.int v :: .int i :: .ref a :: st) sh R I J := by
  intro H locs ls hJ hq hl
  have ha : a < 1000 := Nat.lt_of_lt_of_le ((List.getElem?_eq_some_iff.mp hs).1) hJ.2.1
  have hc : H[tq_gs g + a]? = some (arrV (tq_gA g 1) m (fun j => .int (I a j))) := hJ.2.2.1 a _ hs
  have hK := C.2.2.2.2.2.2.2.2.1
  obtain ⟨h1, h2⟩ := tq_in hi hj
  refine W.zast (x := v) (a := tq_gs g + a) C.1 C.2.1 hc ((hK.2 1 (tq_gA g 1, .boolean) rfl).1 m _) (fun q => by cases q) (by rw [arrV_size]; exact h1) rfl (rest := st.map (tq_v g)) (by show (Value.int v :: .int i :: .ref (tq_ad g a) :: _) = _; rw [tq_ad_lt ha]) hd fun H1 e z oq => ?_
  rw [h2, (tq_nar_bool hv).1] at e
  rw [h2]
  refine kk H1 _ ls (tq_J.set hJ hs z oq ?_ (fun b u hb hu h => tq_at.cong (fun j => tq_u_cell hb) (fun _ => rfl) (fun _ _ _ _ => rfl) h)) (tq_locs hq) hl
  exact e.trans (congrArg some (tq_arr_set (R := R) (Or.inr rfl) hj))
/-- the outer rows: the script and the static ones -/
theorem EV_oald (C : tq_C g μ x) {o j : Nat} {i : Int32} (hd : decode μ.2.1 pc = .ok (.iaload, 1)) (ho : o ≤ 3) (hi : i.toInt = (j : Int)) (hj : j < tq_oL g o) (kk : EV g μ x k n (pc + 1) lv (.int (tq_oX g o j) :: st) sh R I J) : EV g μ x k n pc lv (.int i :: .ref (1000 + o) :: st) sh R I J := by
  intro H locs ls hJ hq hl
  obtain ⟨cell, c1, c2, c3, c4, c5, c6, c7⟩ := C.2.2.2.2.2.2.2.2.2.2.2.2.2 o ho
  have e : tq_ad g (1000 + o) = tq_go g o := by
    unfold tq_ad
    rw [if_neg (by omega), show 1000 + o - 1000 = o by omega]
  have hc : H[tq_go g o]? = some cell := by rw [hJ.2.2.2 _ (Nat.not_le.mp c7)]; exact c1
  obtain ⟨h1, h2⟩ := tq_in (m := cell.slots.size) hi (Nat.lt_of_lt_of_le hj c4)
  exact W.iald (v := .int (tq_oX g o j)) (a := tq_ad g (1000 + o)) C.1 C.2.1 (by rw [e]; exact hc) c2 c3 h1 (by rw [h2]; exact c6 j hj) rfl rfl hd (kk H locs ls hJ hq hl)
theorem EV_olen (C : tq_C g μ x) {o L : Nat} (hd : decode μ.2.1 pc = .ok (.arraylength, 1)) (ho : o ≤ 3) (hL : tq_oL g o = L) (kk : EV g μ x k n (pc + 1) lv (.int (nI L) :: st) sh R I J) : EV g μ x k n pc lv (.ref (1000 + o) :: st) sh R I J := by
  subst hL
  intro H locs ls hJ hq hl
  obtain ⟨cell, c1, c2, c3, c4, c5, c6, c7⟩ := C.2.2.2.2.2.2.2.2.2.2.2.2.2 o ho
  have e : tq_ad g (1000 + o) = tq_go g o := by
    unfold tq_ad
    rw [if_neg (by omega), show 1000 + o - 1000 = o by omega]
  have hc : H[tq_go g o]? = some cell := by rw [hJ.2.2.2 _ (Nat.not_le.mp c7)]; exact c1
  exact W.alen (n := nI (tq_oL g o)) (a := tq_ad g (1000 + o)) C.1 C.2.1 (by rw [e]; exact hc) c2 c5 rfl rfl hd (kk H locs ls hJ hq hl)
theorem EV_gets (C : tq_C g μ x) {own idx o pl : Nat} (hown : tq_cn own = μ.1.cls) (hf : (own, idx, o, pl) ∈ tq_sl) (ho : 1 ≤ o ∧ o ≤ 3) (hd : decode μ.2.1 pc = .ok (.getstatic idx, 3)) (kk : EV g μ x k n (pc + 3) lv (.ref (1000 + o) :: st) sh R I J) : EV g μ x k n pc lv st sh R I J := by
  intro H locs ls hJ hq hl
  obtain ⟨cf, kf, fi, f, a, cell, h1, h2, h3, h4, h5, h6, h7, h8⟩ := C.2.2.2.2.2.2.2.2.2.2.2.2.1 o ho.1 ho.2
  have e : tq_ad g (1000 + o) = tq_go g o := by
    unfold tq_ad
    rw [if_neg (by omega), show 1000 + o - 1000 = o by omega]
  have hw : Cond.before (.fieldLink (tq_cn own) idx "TerrainTiler$Land" (tq_sn o) "[I") (tq_xa x) (tq_xs x) = true := by
    have := List.all_eq_true.mp tq_sl_ok _ hf
    exact C.2.2.2.2.2.2.2.1 _ (tq_inW pl (of_decide_eq_true this) rfl)
  rw [hown] at hw
  have hk := kk H locs ls hJ hq hl
  have ee : (Value.ref (1000 + o) :: st).map (tq_v g) = Value.ref (tq_go g o) :: st.map (tq_v g) := by
    show Value.ref (tq_ad g (1000 + o)) :: _ = _
    rw [e]
  rw [ee] at hk
  exact W.gets C.1 C.2.1 C.2.2.2.2.2.2.1 hw h1 h2 h3 h4 (by rw [hJ.2.2.2 a (Nat.not_le.mp h8)]; exact h5) (fun e => by rw [e] at h6; cases h6) h7 rfl hd hk
end TQ2
