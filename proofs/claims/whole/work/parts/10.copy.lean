/-! System.arraycopy between int rows -/
def tq_cp (I : tq_I) (a sp b dp n : Nat) : tq_I := fun c j => if c = b ∧ dp ≤ j ∧ j < dp + n then I a (sp + (j - dp)) else I c j
theorem tq_cpyw : .native arraycopyName ∈ tq_ws ∧ .static arraycopyName ∈ tq_ws ∧ .initialized "java/lang/System" ∈ tq_ws := ⟨tq_anyin (by decide +kernel) rfl, tq_anyin (by decide +kernel) rfl, tq_anyin (by decide +kernel) rfl⟩
section TQ6
variable {g : tq_G} {μ : tq_M} {x : tq_X} {k n pc : Nat} {lv : List (Option Value)} {st : List Value} {sh : List tq_S} {R : tq_R} {I : tq_I} {J : Int64}
theorem EV_copy (C : tq_C g μ x) {d mc0 ms0 : Nat} (hR : tq_ht x d mc0 ms0) {own idx pl a b ma mb : Nat} {sp dp z : Int32} {sp' dp' z' : Nat} (hown : tq_cn own = μ.1.cls) (hl0 : (own, idx, arraycopyName, pl) ∈ tq_ml) (hd : decode μ.2.1 pc = .ok (.invokestatic idx, 3)) (hh : 2 ≤ d) (hw : (st.map fun v => v.category).sum ≤ 8)
    (ha : sh[a]? = some (.inr (0, ma))) (hb : sh[b]? = some (.inr (0, mb))) (h1 : sp.toInt = (sp' : Int)) (h2 : dp.toInt = (dp' : Int)) (h3 : z.toInt = (z' : Int)) (h4 : sp' + z' ≤ ma) (h5 : dp' + z' ≤ mb)
    (kk : EV g μ x k n (pc + 3) lv st sh R (tq_cp I a sp' b dp' z') J) : EV g μ x k n pc lv (.int z :: .int dp :: .ref b :: .int sp :: .ref a :: st) sh R I J := by
  intro H locs ls hJ hq hl
  have hts := C.2.2.2.2.2.2.2.1
  have hlw := hts _ (tq_mlin hl0)
  rw [hown] at hlw
  have hK := C.2.2.2.2.2.2.2.2.1
  have ha' : a < 1000 := Nat.lt_of_lt_of_le ((List.getElem?_eq_some_iff.mp ha).1) hJ.2.1
  have hb' : b < 1000 := Nat.lt_of_lt_of_le ((List.getElem?_eq_some_iff.mp hb).1) hJ.2.1
  have hc0 : H[tq_gs g + a]? = some (vp_cell (tq_gA g 0) (ma, .inl (I a))) := hJ.2.2.1 a _ ha
  have hc1 : H[tq_gs g + b]? = some (vp_cell (tq_gA g 0) (mb, .inl (I b))) := hJ.2.2.1 b _ hb
  obtain ⟨-, k0, hk0, cm0, hkk0⟩ := (hK.2 0 (tq_gA g 0, .int) rfl).1 ma (fun j => .int (I a j))
  obtain ⟨-, k1, hk1, cm1, hkk1⟩ := (hK.2 0 (tq_gA g 0, .int) rfl).1 mb (fun j => .int (I b j))
  obtain ⟨n1, e1⟩ := tq_in (m := sp' + 1) h1 (Nat.lt_succ_self _)
  obtain ⟨n2, e2⟩ := tq_in (m := dp' + 1) h2 (Nat.lt_succ_self _)
  obtain ⟨n3, e3⟩ := tq_in (m := z' + 1) h3 (Nat.lt_succ_self _)
  have h40 := hR.2.1
  have hnf : nativeFrameWords "java/lang/System" "arraycopy" 5 ≤ 40 := by decide
  have hnw : 2 * 0 + ((st.map (tq_v g)).map fun v => v.category).sum + (nativeFrameWords "java/lang/System" "arraycopy" 5 + 11) ≤ (tq_xR x).locals := by
    rw [tq_cats]
    omega
  intro T hT X
  obtain ⟨vm', X', step⟩ := X.arraycopy C.1 C.2.2.2.2.2.2.1 hlw (hts _ tq_cpyw.1) (hts _ tq_cpyw.2.1) (hts _ tq_cpyw.2.2) (src := tq_gs g + a) (dst := tq_gs g + b) (cs := vp_cell (tq_gA g 0) (ma, .inl (I a))) (cd := vp_cell (tq_gA g 0) (mb, .inl (I b))) (srcPos := sp) (destPos := dp) (n := z) (by rw [hT]; exact hc0) (by rw [hT]; exact hc1)
    (fun _ h => by cases h) (fun _ h => by cases h) (fun h => by cases h) (fun h => by cases h) hk0 hk1 hkk0 hkk1 (by simp [refKind]) (fun h => n1 (Or.inl h)) (fun h => n2 (Or.inl h)) (fun h => n3 (Or.inl h))
    (by rw [h1, h3]; show ¬ _ > ((arrV (tq_gA g 0) ma (fun j => .int (I a j))).slots.size : Int); rw [arrV_size]; omega)
    (by rw [h2, h3]; show ¬ _ > ((arrV (tq_gA g 0) mb (fun j => .int (I b j))).slots.size : Int); rw [arrV_size]; omega)
    (fun vm₁ _ i hi => by
      have e : (vp_cell (tq_gA g 0) (ma, .inl (I a))).slots.getD (sp.toNatClampNeg + i) .null = .int (I a (sp.toNatClampNeg + i)) := by
        show (arrV (tq_gA g 0) ma (fun j => .int (I a j))).slots.getD _ _ = _
        rw [Array.getD_eq_getD_getElem?, arrV_read _ _ (by omega)]
        rfl
      refine ⟨?_, ?_⟩
      · rw [e]
        rfl
      · rw [e]
        exact trivial)
    (g := F0 (tq_xm x) pc ls (.int z :: .int dp :: .ref (tq_gs g + b) :: .int sp :: .ref (tq_gs g + a) :: st.map (tq_v g))) rfl (by rw [C.2.2.1]; exact hl.1) (rest := st.map (tq_v g)) rfl (by rw [C.2.1]; exact hd) (by rw [hR.1]; omega) hnw
  have ec : copied (vp_cell (tq_gA g 0) (ma, .inl (I a))) (vp_cell (tq_gA g 0) (mb, .inl (I b))) sp dp z = vp_cell (tq_gA g 0) (mb, .inl (va_cpy (I a) (I b) sp.toNatClampNeg dp.toNatClampNeg z.toNatClampNeg)) := va_copied (fun z => .int z) (tq_gA g 0) (tq_gA g 0) (I a) (I b) (by rw [e1, e3]; exact h4)
  rw [ec, e1, e2, e3] at X' step
  have hlb : tq_gs g + b < H.size := (Array.getElem?_eq_some_iff.mp hc1).1
  generalize hcell : vp_cell (tq_gA g 0) (mb, .inl (va_cpy (I a) (I b) sp' dp' z')) = cell at X' step
  have hheap : ((T.setVm vm').setCell (tq_gs g + b) cell).heap = H.setIfInBounds (tq_gs g + b) cell := by rw [← hT]; rfl
  have oq : ∀ q : Nat, q ≠ tq_gs g + b → (H.setIfInBounds (tq_gs g + b) cell)[q]? = H[q]? := fun q hq => by simp [Array.getElem?_setIfInBounds, Ne.symm hq]
  have hat : tq_at g R (tq_cp I a sp' b dp' z') J (.inr (0, mb)) b (H.setIfInBounds (tq_gs g + b) cell) := by
    show (H.setIfInBounds (tq_gs g + b) cell)[_]? = some (arrV (tq_gA g 0) mb (fun j => .int (tq_cp I a sp' b dp' z' b j)))
    rw [Array.getElem?_setIfInBounds, if_pos rfl, if_pos hlb, ← hcell, vp_cell_i]
    congr 2
    funext q
    simp only [va_cpy, tq_cp, true_and]
  have hJ1 : tq_J g sh R (tq_cp I a sp' b dp' z') J (H.setIfInBounds (tq_gs g + b) cell) := tq_J.set hJ hb (by simp) oq hat (fun e u he hu h => tq_at.cong (fun j => by simp [tq_cp, he]) (fun j => rfl) (fun _ _ _ _ => rfl) h)
  obtain ⟨t, a1, b1⟩ := kk _ _ ls hJ1 (fun q hq' => by
      rcases List.mem_append.mp hq' with h | h
      · exact hq q h
      · obtain ⟨w, -, hw⟩ := List.mem_map.mp h
        rw [← hw]
        exact Nat.le_add_right _ _) hl _ hheap X'
  refine ⟨t, ?_, b1⟩
  have es : (Value.int z :: .int dp :: .ref b :: .int sp :: .ref a :: st).map (tq_v g) = .int z :: .int dp :: .ref (tq_gs g + b) :: .int sp :: .ref (tq_gs g + a) :: st.map (tq_v g) := by
    show Value.int z :: .int dp :: .ref (tq_ad g b) :: .int sp :: .ref (tq_ad g a) :: _ = _
    rw [tq_ad_lt ha', tq_ad_lt hb']
  rw [es]
  exact step t a1
end TQ6
