/-! THE RULES of the judgement, an instruction each; then blocks of plain instructions at once -/
def tq_rem (x y : Int32) : Int32 := x - x / y * y
def tq_ush (x y : Int32) : Int32 := (x.toUInt32 >>> (y.toUInt32 &&& Int32.toUInt32 31)).toInt32
/-- an int store with one place changed -/
def tq_u (I : tq_I) (a k : Nat) (v : Int32) : tq_I := fun b j => if b = a ∧ j = k then v else I b j
theorem tq_u_same {I : tq_I} {a k : Nat} {v : Int32} : tq_u I a k v a k = v := by simp [tq_u]
theorem tq_u_cell {I : tq_I} {a k b j : Nat} {v : Int32} (h : b ≠ a) : tq_u I a k v b j = I b j := by simp [tq_u, h]
theorem tq_u_slot {I : tq_I} {a k b j : Nat} {v : Int32} (h : j ≠ k) : tq_u I a k v b j = I b j := by simp [tq_u, h]
section TQ1
variable {g : tq_G} {μ : tq_M} {x : tq_X} {k n pc : Nat} {lv : List (Option Value)} {st : List Value} {sh : List tq_S} {R : tq_R} {I : tq_I} {J : Int64}
/-! locals -/
def tq_as (lv : List (Option Value)) : List (Nat × Value) := (List.range lv.length).filterMap (fun i => match lv[i]? with | some (some v) => some (i, v) | _ => none)
theorem tq_as_mem {lv : List (Option Value)} {i : Nat} {v : Value} (h : lv[i]? = some (some v)) : (i, v) ∈ tq_as lv := by
  refine List.mem_filterMap.mpr ⟨i, List.mem_range.mpr ((List.getElem?_eq_some_iff.mp h).1), ?_⟩
  rw [h]
theorem tq_mem_as {lv : List (Option Value)} {q : Nat × Value} (h : q ∈ tq_as lv) : lv[q.1]? = some (some q.2) := by
  obtain ⟨i, -, hi⟩ := List.mem_filterMap.mp h
  split at hi
  · rename_i v hv
    cases hi
    exact hv
  · cases hi
theorem tq_L.has {ls : Array Slot} {nL : Nat} (h : tq_L g ls nL lv) : lv_has ls nL ((tq_as lv).map (fun q => (q.1, tq_v g q.2))) := by
  refine ⟨h.1, h.2.1, fun q hq => ?_⟩
  obtain ⟨r, hr, rfl⟩ := List.mem_map.mp hq
  exact h.2.2 _ _ (tq_mem_as hr)
/-- a long stands below place i -/
def tq_lg (lv : List (Option Value)) (i : Nat) : Bool := match i with
  | 0 => false
  | i + 1 => match lv[i]? with
    | some (some v) => v.category == 2
    | _ => false
theorem tq_L.set1 {ls' : Array Slot} {nL i : Nat} {v : Value} (hz : tq_lg lv i = false) (h : lv_has ls' nL ((i, tq_v g v) :: ((tq_as lv).map (fun q => (q.1, tq_v g q.2))).filter (fun q => !(q.1 == i) && !(q.1 + 1 == i && q.2.category == 2)))) : tq_L g ls' nL (lv.set i (some v)) := by
  refine ⟨h.1, h.2.1, fun j w hj => ?_⟩
  by_cases hji : j = i
  · subst hji
    rw [List.getElem?_set] at hj
    simp only [if_pos] at hj
    split at hj
    · cases hj
      exact h.2.2 _ List.mem_cons_self
    · cases hj
  · rw [List.getElem?_set_ne (Ne.symm hji)] at hj
    refine h.2.2 (j, tq_v g w) (List.mem_cons_of_mem _ (List.mem_filter.mpr ⟨List.mem_map.mpr ⟨(j, w), tq_as_mem hj, rfl⟩, ?_⟩))
    simp only [Bool.and_eq_true, Bool.not_eq_true', beq_eq_false_iff_ne]
    refine ⟨hji, ?_⟩
    rw [tq_v_cat]
    by_cases hi : j + 1 = i
    · subst hi
      simp only [tq_lg, hj] at hz
      simp [hz]
    · simp [hi]
theorem tq_L.set2 {ls' : Array Slot} {nL i : Nat} {v : Value} (hz : tq_lg lv i = false) (h : lv_has ls' nL ((i, tq_v g v) :: ((tq_as lv).map (fun q => (q.1, tq_v g q.2))).filter (fun q => !(q.1 == i) && (!(q.1 == i + 1) && !(q.1 + 1 == i && q.2.category == 2))))) : tq_L g ls' nL ((lv.set (i + 1) none).set i (some v)) := by
  refine ⟨h.1, h.2.1, fun j w hj => ?_⟩
  by_cases hji : j = i
  · subst hji
    rw [List.getElem?_set] at hj
    simp only [if_pos] at hj
    split at hj
    · cases hj
      exact h.2.2 _ List.mem_cons_self
    · cases hj
  · rw [List.getElem?_set_ne (Ne.symm hji)] at hj
    by_cases hj1 : j = i + 1
    · subst hj1
      rw [List.getElem?_set] at hj
      simp only [if_pos] at hj
      split at hj <;> cases hj
    · rw [List.getElem?_set_ne (Ne.symm hj1)] at hj
      refine h.2.2 (j, tq_v g w) (List.mem_cons_of_mem _ (List.mem_filter.mpr ⟨List.mem_map.mpr ⟨(j, w), tq_as_mem hj, rfl⟩, ?_⟩))
      simp only [Bool.and_eq_true, Bool.not_eq_true', beq_eq_false_iff_ne]
      refine ⟨hji, hj1, ?_⟩
      rw [tq_v_cat]
      by_cases hi : j + 1 = i
      · subst hi
        simp only [tq_lg, hj] at hz
        simp [hz]
      · simp [hi]
theorem EV_istore_n (C : tq_C g μ x) {f : Fin 4} {v : Int32} (hd : decode μ.2.1 pc = .ok (.istore_n f, 1)) (hn : f.val < μ.2.2.1) (hz : tq_lg lv f.val = false) (kk : EV g μ x k n (pc + 1) (lv.set f.val (some (.int v))) st sh R I J) : EV g μ x k n pc lv (.int v :: st) sh R I J := by
  intro H locs ls hJ hq hl
  exact lv_istore_n C.1 C.2.1 hd rfl hl.has hn rfl (fun ls' h => kk H locs ls' hJ hq (tq_L.set1 (v := .int v) hz h))
theorem EV_istore (C : tq_C g μ x) {i : Nat} {v : Int32} (hd : decode μ.2.1 pc = .ok (.istore i, 2)) (hn : i < μ.2.2.1) (hz : tq_lg lv i = false) (kk : EV g μ x k n (pc + 2) (lv.set i (some (.int v))) st sh R I J) : EV g μ x k n pc lv (.int v :: st) sh R I J := by
  intro H locs ls hJ hq hl
  exact lv_istore C.1 C.2.1 hd hl.has hn rfl (fun ls' h => kk H locs ls' hJ hq (tq_L.set1 (v := .int v) hz h))
theorem EV_lstore_n (C : tq_C g μ x) {f : Fin 4} {v : Int64} (hd : decode μ.2.1 pc = .ok (.lstore_n f, 1)) (hn : f.val + 1 < μ.2.2.1) (hz : tq_lg lv f.val = false) (kk : EV g μ x k n (pc + 1) ((lv.set (f.val + 1) none).set f.val (some (.long v))) st sh R I J) : EV g μ x k n pc lv (.long v :: st) sh R I J := by
  intro H locs ls hJ hq hl
  exact lv_lstore_n C.1 C.2.1 hd rfl hl.has hn rfl (fun ls' h => kk H locs ls' hJ hq (tq_L.set2 (v := .long v) hz h))
theorem EV_lstore (C : tq_C g μ x) {i : Nat} {v : Int64} (hd : decode μ.2.1 pc = .ok (.lstore i, 2)) (hn : i + 1 < μ.2.2.1) (hz : tq_lg lv i = false) (kk : EV g μ x k n (pc + 2) ((lv.set (i + 1) none).set i (some (.long v))) st sh R I J) : EV g μ x k n pc lv (.long v :: st) sh R I J := by
  intro H locs ls hJ hq hl
  exact lv_lstore C.1 C.2.1 hd hl.has hn rfl (fun ls' h => kk H locs ls' hJ hq (tq_L.set2 (v := .long v) hz h))
theorem EV_astore_n (C : tq_C g μ x) {f : Fin 4} {a : Nat} (hd : decode μ.2.1 pc = .ok (.astore_n f, 1)) (hn : f.val < μ.2.2.1) (hz : tq_lg lv f.val = false) (kk : EV g μ x k n (pc + 1) (lv.set f.val (some (.ref a))) st sh R I J) : EV g μ x k n pc lv (.ref a :: st) sh R I J := by
  intro H locs ls hJ hq hl
  exact lv_astore_n C.1 C.2.1 hd rfl hl.has hn rfl (fun ls' h => kk H locs ls' hJ hq (tq_L.set1 (v := .ref a) hz h))
theorem EV_iinc (C : tq_C g μ x) {i : Nat} {m : Int} {v w : Int32} (hd : decode μ.2.1 pc = .ok (.iinc i m, 3)) (hv : lv[i]? = some (some (.int v))) (hw : Int32.ofInt m = w) (hn : i < μ.2.2.1) (hz : tq_lg lv i = false) (kk : EV g μ x k n (pc + 3) (lv.set i (some (.int (v + w)))) st sh R I J) : EV g μ x k n pc lv st sh R I J := by
  intro H locs ls hJ hq hl
  have hm : (i, Value.int v) ∈ (tq_as lv).map (fun q => (q.1, tq_v g q.2)) := List.mem_map.mpr ⟨(i, .int v), tq_as_mem hv, rfl⟩
  obtain ⟨j, hj⟩ := List.getElem?_of_mem hm
  exact lv_iinc C.1 C.2.1 hd hl.has hj (by rw [hw]) hn rfl (fun ls' h => kk H locs ls' hJ hq (tq_L.set1 (v := .int (v + w)) hz h))
/-! field reads -/
theorem tq_flin {q : Nat × Nat × Nat × Nat × Nat} (h : q ∈ tq_fl) : tq_fw q ∈ tq_ws ∧ q.2.2.2.1 < tq_nf q.2.2.1 ∧ q.2.2.1 < 13 := by
  have := List.all_eq_true.mp tq_fl_ok q h
  simp only [Bool.and_eq_true, decide_eq_true_eq] at this
  exact ⟨tq_inW _ this.1 rfl, this.2⟩
theorem tq_fnin {q : Nat × Nat × Nat × Nat × Nat} (h : q ∈ tq_fn) : q.2.2.2.1 < tq_nf q.2.2.1 ∧ q.2.2.1 < 13 := by
  have := List.all_eq_true.mp tq_fn_ok q h
  simp only [Bool.and_eq_true, decide_eq_true_eq] at this
  exact this.2
theorem tq_cl_lt {c : Nat} (h : c < 13) : ∃ q, tq_cl[c]? = some q ∧ q.2.2 = tq_nf c ∧ ∀ k, tq_T c k = q.2.1 k := by
  obtain ⟨q, hq⟩ : ∃ q, tq_cl[c]? = some q := ⟨tq_cl[c]'(by simpa [tq_cl] using h), by simp [h]⟩
  exact ⟨q, hq, tq_nf_ok hq, fun k => by simp only [tq_T, hq]⟩
theorem EV_get (C : tq_C g μ x) {own idx c j pl a : Nat} (hown : tq_cn own = μ.1.cls) (hf : (own, idx, c, j, pl) ∈ tq_fl ∨ (own, idx, c, j, pl) ∈ tq_fn) (hd : decode μ.2.1 pc = .ok (.getfield idx, 3)) (hs : sh[a]? = some (.inl c)) (kk : EV g μ x k n (pc + 3) lv (tq_av R I J (tq_ty c j) a j :: st) sh R I J) : EV g μ x k n pc lv (.ref a :: st) sh R I J := by
  intro H locs ls hJ hq hl
  have ha : a < 1000 := Nat.lt_of_lt_of_le ((List.getElem?_eq_some_iff.mp hs).1) hJ.2.1
  have hO : t_OB (tq_gs g + a) ((tq_gD g).1 c) (tq_nf c) ((tq_gD g).2 c) H (fun k => tq_fv g R I J (tq_ty c k) a k) := hJ.2.2.1 a _ hs
  have hc : j < tq_nf c ∧ c < 13 := by
    rcases hf with hf | hf
    · exact (tq_flin hf).2
    · exact tq_fnin hf
  obtain ⟨q, hcl, hN, hT⟩ := tq_cl_lt hc.2
  obtain ⟨cell, q1, q2, q3, q4⟩ := hO
  obtain ⟨hS, hfc, kC, hkC, hkind⟩ := C.2.2.2.2.2.2.2.2.1.1 c q hcl
  have hjN : j < q.2.2 := by rw [hN]; exact hc.1
  obtain ⟨cf, kf, fi, f, hi, hsl⟩ := hS j hjN
  have hst := (u_facts hfc hkC (u_lays C.2.2.2.2.2.2.2.1 (tq_lay hcl) hjN) hi).1
  have hg : cell.slots[f.slot]? = some (tq_v g (tq_av R I J (tq_ty c j) a j)) := by rw [hsl, q4 j hc.1]; rfl
  have hdd : (st.map (tq_v g)) = (st.map (tq_v g)) := rfl
  rcases hf with hf | hf
  · have hw := C.2.2.2.2.2.2.2.1 _ (tq_flin hf).1
    simp only [tq_fw, hT, hown] at hw
    exact W.getf C.1 C.2.1 C.2.2.2.2.2.2.1 hw hi hst (a := tq_ad g a) (by rw [tq_ad_lt ha]; exact q1) (by rw [q3]; exact fun h => by cases h) hg rfl rfl hd (kk H locs ls hJ hq hl)
  · have hw := va_Nw.use (A := tq_xa x) rfl (C.2.2.2.2.2.2.2.2.2.1 _ hf)
    simp only [tq_fnw, hT, hown] at hw
    exact va_Wgetf C.1 C.2.1 C.2.2.2.2.2.2.1 hw hi hst (a := tq_ad g a) (by rw [tq_ad_lt ha]; exact q1) (by rw [q3]; exact fun h => by cases h) hg rfl rfl hd (kk H locs ls hJ hq hl)
end TQ1
