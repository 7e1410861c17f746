/-! calls, ends, branches, new cells -/
section TQ3
variable {g : tq_G} {μ : tq_M} {x : tq_X} {k n pc : Nat} {lv : List (Option Value)} {st : List Value} {sh : List tq_S} {R : tq_R} {I : tq_I} {J : Int64}
theorem tq_good {w : Cond} (h : w ∈ tq_ws) : (w.onTables && w.keeps) = true ∨ ∃ ty, w = .arrayClass ty := good_of_word (List.mem_filter.mp h).2
theorem tq_goodIn {μ' : tq_M} {N : Nat} (hm : tq_mok μ' N) : GoodIn tq_ws (.code μ'.1 μ'.2.1 μ'.2.2.1 μ'.2.2.2 :: tq_ws) := by
  intro w hw
  rcases List.mem_cons.mp hw with h | h
  · rw [h]; exact ⟨hm.1, tq_good hm.1⟩
  · exact ⟨h, tq_good h⟩
theorem tq_blind {av : List Value} : FrameBlind (tq_Pc g av sh R I J) := fun a U gg mk h => ⟨h.1, tq_F.same rfl h.2.1, h.2.2⟩
theorem tq_pre {av : List Value} {s : State} {H : Heap} (hF : tq_F g s) (hJ : tq_J g sh R I J H) : PreS s H (tq_Pc g av sh R I J) (av.map (tq_v g)) :=
  ⟨tq_blind, fun U hU hW => ⟨rfl, tq_F.moved hW hF, by rw [hU]; exact hJ⟩⟩
theorem tq_room {d d' mc ms L : Nat} {Rm : Room} (hR : Rm.frames = d ∧ 40 * d ≤ Rm.locals) (hd : d' + 1 ≤ d) (hL : L ≤ 21) : (tq_rm d' mc ms).frames + 1 ≤ Rm.frames ∧ 8 + (L + 11) + (tq_rm d' mc ms).locals ≤ Rm.locals := by
  obtain ⟨h1, h2⟩ := hR
  refine ⟨by rw [h1]; exact hd, ?_⟩
  show 8 + (L + 11) + 40 * d' ≤ _
  omega
theorem tq_cats (st : List Value) : ((st.map (tq_v g)).map fun v => v.category).sum = (st.map fun v => v.category).sum := by
  rw [List.map_map]
  congr 1
  exact List.map_congr_left (fun v _ => tq_v_cat g v)
/-- what a room is to a method of height d -/
def tq_ht (x : tq_X) (d mc ms : Nat) : Prop := (tq_xR x).frames = d ∧ 40 * d ≤ (tq_xR x).locals ∧ (tq_xR x).cells = mc ∧ (tq_xR x).slots = ms
theorem tq_ht.of {d mc ms : Nat} (h : tq_xR x = tq_rm d mc ms) : tq_ht x d mc ms := by
  unfold tq_ht
  rw [h]
  exact ⟨rfl, Nat.le_refl _, rfl, rfl⟩
/-- behind a call -/
theorem EV_run {μ' : tq_M} {mc ms : Nat} {Q : tq_Q} {av : Array Value} {rest st0 : List Value}
    (hr : ∀ (H : Heap) (locs : List Loc) (ls : Array Slot), tq_J g sh R I J H → tq_L g ls μ.2.2.1 lv → va_Run x.1 (tq_gl g) x.2.1 (tq_xR x) (tq_xs x) (tq_xm x) (tq_xa x) (tq_xb x) (tq_xt x) (tq_xc x) H locs k n mc ms (F0 (tq_xm x) pc ls (st0.map (tq_v g))) (rest.map (tq_v g)) (tq_Qc g Q av) (tq_gf g))
    (kk : ∀ (r : Option Value) (sh' : List tq_S) (R' : tq_R) (I' : tq_I) (J' : Int64), Q r sh' R' I' J' → EV g μ x (k + mc) (n + ms) (pc + 3) lv (r.toList ++ rest) sh' R' I' J') : EV g μ x k n pc lv st0 sh R I J := by
  intro H locs ls hJ hq hl T hT X
  obtain ⟨v, st₀, t, T', L, h0, X', hL, e1, e2, ⟨r, sh', R', I', J', hv, hQ, hF', hJ'⟩, stp⟩ := hr H locs ls hJ hl T hT X
  have hv' : v = r.map (tq_v g) := by cases hv; rfl
  have hk := kk r sh' R' I' J' hQ T'.heap (locs ++ L) ls (by rw [e1]; exact hJ') (fun q h => by
    rcases List.mem_append.mp h with h | h
    · exact hq q h
    · exact hL q h) hl T' rfl X'
  obtain ⟨t2, a1, b1⟩ := hk
  refine ⟨t2, stp t2 ?_, b1⟩
  have e : v.toList ++ rest.map (tq_v g) = (r.toList ++ rest).map (tq_v g) := by
    rw [hv', List.map_append]
    cases r <;> rfl
  rw [e]
  exact a1
/-- a method link, plain or to a nest mate -/
def tq_lk (own idx : Nat) (y : MethodName) : Prop := (∃ pl, (own, idx, y, pl) ∈ tq_ml) ∨ ∃ pl, (own, idx, y, pl) ∈ tq_mn
theorem tq_mlin {own idx pl : Nat} {y : MethodName} (h : (own, idx, y, pl) ∈ tq_ml) : .methodLink (tq_cn own) idx y ∈ tq_ws := by
  have := List.all_eq_true.mp tq_ml_ok _ h
  exact tq_inW pl (of_decide_eq_true this) rfl
theorem EV_callS (C : tq_C g μ x) {d mc0 ms0 : Nat} (hR : tq_ht x d mc0 ms0) {μ' : tq_M} {own idx N d' mc ms : Nat} {av rest : List Value} {Q : tq_Q} (hown : tq_cn own = μ.1.cls) (hl : tq_lk own idx μ'.1) (hm : tq_mok μ' N) (hs : tq_stat μ') (ct : CT g μ' d' mc ms av sh R I J Q) (hd : decode μ.2.1 pc = .ok (.invokestatic idx, 3)) (hN : av.length = N) (hh : d' + 1 ≤ d) (hw : (rest.map fun v => v.category).sum ≤ 8) (hc : k + mc ≤ mc0 ∧ n + ms ≤ ms0)
    {st0 : List Value} (hst : st0 = av.reverse ++ rest)
    (kk : ∀ (r : Option Value) (sh' : List tq_S) (R' : tq_R) (I' : tq_I) (J' : Int64), Q r sh' R' I' J' → EV g μ x (k + mc) (n + ms) (pc + 3) lv (r.toList ++ rest) sh' R' I' J') : EV g μ x k n pc lv st0 sh R I J := by
  refine EV_run (mc := mc) (ms := ms) (μ' := μ') (Q := Q) (rest := rest) (av := (av.map (tq_v g)).toArray) ?_ kk
  intro H locs ls hJ hls
  have hts := C.2.2.2.2.2.2.2.1
  have hst' : (F0 (tq_xm x) pc ls (st0.map (tq_v g))).stack = (av.map (tq_v g)).reverse ++ rest.map (tq_v g) := by
    show st0.map (tq_v g) = _
    rw [hst, List.map_append, List.map_reverse]
  have hmr : 2 * (F0 (tq_xm x) pc ls (st0.map (tq_v g))).monitorRoom + ((rest.map (tq_v g)).map fun v => v.category).sum ≤ 8 := by rw [tq_cats]; exact (lv_room hw)
  have hc' : k + mc ≤ (tq_xR x).cells ∧ n + ms ≤ (tq_xR x).slots := by rw [hR.2.2.1, hR.2.2.2]; exact hc
  rcases hl with ⟨pl, hl⟩ | ⟨pl, hl⟩
  · have hlw := hts _ (tq_mlin hl)
    rw [hown] at hlw
    exact va_runS (As := av.map (tq_v g)) ⟨C.1, C.2.1, C.2.2.1, C.2.2.2.2.2.2.1, hts⟩ ct ⟨callB_of N hts (tq_goodIn hm) rfl rfl rfl (hts _ hm.2.1) hlw hm.2.2.2.1 (tq_room ⟨hR.1, hR.2.1⟩ hh hm.2.2.2.2), hts _ hs⟩ (tq_pre C.2.2.2.2.2.2.2.2 hJ) rfl (by rw [List.length_map]; exact hN) hls.1 hst' hmr hd hc'
  · have hlw := C.2.2.2.2.2.2.2.2.2.2.1 _ hl
    simp only [tq_mnw, hown] at hlw
    exact va_runSN (As := av.map (tq_v g)) ⟨C.1, C.2.1, C.2.2.1, C.2.2.2.2.2.2.1, hts⟩ ct ⟨va_cnB N hts (tq_goodIn hm) rfl rfl rfl hlw (hts _ hm.2.1) hm.2.2.2.1 (tq_room ⟨hR.1, hR.2.1⟩ hh hm.2.2.2.2), hts _ hs, trivial⟩ (tq_pre C.2.2.2.2.2.2.2.2 hJ) rfl (by rw [List.length_map]; exact hN) hls.1 hst' hmr hd hc'
theorem EV_callV (C : tq_C g μ x) {d mc0 ms0 : Nat} (hR : tq_ht x d mc0 ms0) {μ' : tq_M} {own idx N d' mc ms b cb : Nat} {av rest : List Value} {Q : tq_Q} (hown : tq_cn own = μ.1.cls) (hl : tq_lk own idx μ'.1) (hm : tq_mok μ' N) (hs : tq_inst μ') (ct : CT g μ' d' mc ms (.ref b :: av) sh R I J Q) (hb : sh[b]? = some (.inl cb)) (hcb : (tq_cl[cb]?).map (fun q => q.1) = some μ'.1.cls) (hd : decode μ.2.1 pc = .ok (.invokevirtual idx, 3)) (hN : av.length = N) (hh : d' + 1 ≤ d) (hw : (rest.map fun v => v.category).sum ≤ 8) (hc : k + mc ≤ mc0 ∧ n + ms ≤ ms0)
    {st0 : List Value} (hst : st0 = av.reverse ++ .ref b :: rest)
    (kk : ∀ (r : Option Value) (sh' : List tq_S) (R' : tq_R) (I' : tq_I) (J' : Int64), Q r sh' R' I' J' → EV g μ x (k + mc) (n + ms) (pc + 3) lv (r.toList ++ rest) sh' R' I' J') : EV g μ x k n pc lv st0 sh R I J := by
  refine EV_run (mc := mc) (ms := ms) (μ' := μ') (Q := Q) (rest := rest) (av := (Value.ref (tq_ad g b) :: av.map (tq_v g)).toArray) ?_ kk
  intro H locs ls hJ hls
  have hts := C.2.2.2.2.2.2.2.1
  have ha : b < 1000 := Nat.lt_of_lt_of_le ((List.getElem?_eq_some_iff.mp hb).1) hJ.2.1
  have hO : t_OB (tq_gs g + b) ((tq_gD g).1 cb) (tq_nf cb) ((tq_gD g).2 cb) H (fun k => tq_fv g R I J (tq_ty cb k) b k) := hJ.2.2.1 b _ hb
  obtain ⟨cell, q1, q2, q3, q4⟩ := hO
  have hst' : (F0 (tq_xm x) pc ls (st0.map (tq_v g))).stack = (av.map (tq_v g)).reverse ++ .ref (tq_ad g b) :: rest.map (tq_v g) := by
    show st0.map (tq_v g) = _
    rw [hst, List.map_append, List.map_reverse]
    rfl
  have hmr : 2 * (F0 (tq_xm x) pc ls (st0.map (tq_v g))).monitorRoom + ((rest.map (tq_v g)).map fun v => v.category).sum ≤ 8 := by rw [tq_cats]; exact (lv_room hw)
  have hc' : k + mc ≤ (tq_xR x).cells ∧ n + ms ≤ (tq_xR x).slots := by rw [hR.2.2.1, hR.2.2.2]; exact hc
  obtain ⟨q, hq1, hq2⟩ := Option.map_eq_some_iff.mp hcb
  have hrecv : ∃ cellB : Cell, H[tq_ad g b]? = some cellB ∧ cellB.vm.isStatics = false ∧ (tq_xs x).vm.findClass μ'.1.cls = some cellB.cls :=
    ⟨cell, by rw [tq_ad_lt ha]; exact q1, by rw [q3]; rfl, by rw [q2, ← hq2]; exact (C.2.2.2.2.2.2.2.2.1.1 cb q hq1).2.1⟩
  have hpre : PreV (tq_xs x) H μ'.1.cls (tq_ad g b) (tq_Pc g (.ref b :: av) sh R I J) (av.map (tq_v g)) :=
    ⟨tq_blind, hrecv, (tq_pre (av := .ref b :: av) C.2.2.2.2.2.2.2.2 hJ).2⟩
  rcases hl with ⟨pl, hl⟩ | ⟨pl, hl⟩
  · have hlw := hts _ (tq_mlin hl)
    rw [hown] at hlw
    exact va_runV (As := av.map (tq_v g)) ⟨C.1, C.2.1, C.2.2.1, C.2.2.2.2.2.2.1, hts⟩ ct ⟨callB_of N hts (tq_goodIn hm) rfl rfl rfl (hts _ hm.2.1) hlw hm.2.2.2.1 (tq_room ⟨hR.1, hR.2.1⟩ hh hm.2.2.2.2), hts _ hs.1, hts _ hs.2⟩ hpre rfl (by rw [List.length_map]; exact hN) hls.1 hst' hmr hd hc'
  · have hlw := C.2.2.2.2.2.2.2.2.2.2.1 _ hl
    simp only [tq_mnw, hown] at hlw
    exact va_runVN (As := av.map (tq_v g)) ⟨C.1, C.2.1, C.2.2.1, C.2.2.2.2.2.2.1, hts⟩ ct ⟨va_cnB N hts (tq_goodIn hm) rfl rfl rfl hlw (hts _ hm.2.1) hm.2.2.2.1 (tq_room ⟨hR.1, hR.2.1⟩ hh hm.2.2.2.2), hts _ hs.1, hts _ hs.2⟩ hpre rfl (by rw [List.length_map]; exact hN) hls.1 hst' hmr hd hc'
theorem EV_callI (C : tq_C g μ x) {d mc0 ms0 : Nat} (hR : tq_ht x d mc0 ms0) {μ' : tq_M} {own idx N d' mc ms b : Nat} {av rest : List Value} {Q : tq_Q} (hown : tq_cn own = μ.1.cls) (hl : tq_lk own idx μ'.1) (hm : tq_mok μ' N) (hs : tq_ctor μ') (hvoid : μ'.2.2.2 = none) (ct : CT g μ' d' mc ms (.ref b :: av) sh R I J Q) (hd : decode μ.2.1 pc = .ok (.invokespecial idx, 3)) (hN : av.length = N) (hh : d' + 1 ≤ d) (hw : (rest.map fun v => v.category).sum ≤ 8) (hc : k + mc ≤ mc0 ∧ n + ms ≤ ms0)
    {st0 : List Value} (hst : st0 = av.reverse ++ .ref b :: rest)
    (kk : ∀ (r : Option Value) (sh' : List tq_S) (R' : tq_R) (I' : tq_I) (J' : Int64), Q r sh' R' I' J' → EV g μ x (k + mc) (n + ms) (pc + 3) lv (r.toList ++ rest) sh' R' I' J') : EV g μ x k n pc lv st0 sh R I J := by
  refine EV_run (mc := mc) (ms := ms) (μ' := μ') (Q := Q) (rest := rest) (av := (Value.ref (tq_ad g b) :: av.map (tq_v g)).toArray) ?_ kk
  intro H locs ls hJ hls
  have hts := C.2.2.2.2.2.2.2.1
  have hst' : (F0 (tq_xm x) pc ls (st0.map (tq_v g))).stack = (av.map (tq_v g)).reverse ++ .ref (tq_ad g b) :: rest.map (tq_v g) := by
    show st0.map (tq_v g) = _
    rw [hst, List.map_append, List.map_reverse]
    rfl
  have hmr : 2 * (F0 (tq_xm x) pc ls (st0.map (tq_v g))).monitorRoom + ((rest.map (tq_v g)).map fun v => v.category).sum ≤ 8 := by rw [tq_cats]; exact (lv_room hw)
  have hc' : k + mc ≤ (tq_xR x).cells ∧ n + ms ≤ (tq_xR x).slots := by rw [hR.2.2.1, hR.2.2.2]; exact hc
  have hpre : PreS (tq_xs x) H (tq_Pc g (.ref b :: av) sh R I J) (.ref (tq_ad g b) :: av.map (tq_v g)) := tq_pre (av := .ref b :: av) C.2.2.2.2.2.2.2.2 hJ
  obtain ⟨y', cc', nL', ret'⟩ := μ'
  dsimp only at hvoid
  subst hvoid
  rcases hl with ⟨pl, hl⟩ | ⟨pl, hl⟩
  · have hlw := hts _ (tq_mlin hl)
    rw [hown] at hlw
    exact va_runI (As := av.map (tq_v g)) ⟨C.1, C.2.1, C.2.2.1, C.2.2.2.2.2.2.1, hts⟩ ct ⟨callB_of N hts (tq_goodIn hm) rfl rfl rfl (hts _ hm.2.1) hlw hm.2.2.2.1 (tq_room ⟨hR.1, hR.2.1⟩ hh hm.2.2.2.2), hs.2, hts _ hs.1⟩ hpre rfl (by rw [List.length_map]; exact hN) hls.1 hst' hmr hd hc'
  · have hlw := C.2.2.2.2.2.2.2.2.2.2.1 _ hl
    simp only [tq_mnw, hown] at hlw
    exact va_runIN (As := av.map (tq_v g)) ⟨C.1, C.2.1, C.2.2.1, C.2.2.2.2.2.2.1, hts⟩ ct ⟨va_cnB N hts (tq_goodIn hm) rfl rfl rfl hlw (hts _ hm.2.1) hm.2.2.2.1 (tq_room ⟨hR.1, hR.2.1⟩ hh hm.2.2.2.2), hs.2, hts _ hs.1⟩ hpre rfl (by rw [List.length_map]; exact hN) hls.1 hst' hmr hd hc'
/-! ends -/
def tq_end (g : tq_G) (x : tq_X) (Q : tq_Q) (mc ms : Nat) : Prop := tq_xZ x = MQ (tq_xb x) (tq_Qc g Q) (tq_xa x) (tq_xs x) mc ms (tq_gf g)
theorem EV_iret (C : tq_C g μ x) {Q : tq_Q} {mc ms : Nat} (hZ : tq_end g x Q mc ms) {v : Int32} (hr : μ.2.2.2 = some .int) (hd : decode μ.2.1 pc = .ok (.ireturn, 1)) (h1 : k ≤ mc) (h2 : n ≤ ms) (hQ : Q (some (.int v)) sh R I J) : EV g μ x k n pc lv [.int v] sh R I J := by
  intro H locs ls hJ hq hl
  rw [hZ]
  refine W.widen h1 h2 ?_
  exact W.iret C.1 C.2.1 (C.2.2.2.1.trans hr) (fun t ht hW => ⟨some (.int v), sh, R, I, J, rfl, hQ, tq_F.moved hW C.2.2.2.2.2.2.2.2, by rw [ht]; exact hJ⟩) hq hd C.2.2.2.2.1
theorem EV_zret (C : tq_C g μ x) {Q : tq_Q} {mc ms : Nat} (hZ : tq_end g x Q mc ms) {v : Int32} (hr : μ.2.2.2 = some .boolean) (hv : v = 0 ∨ v = 1) (hd : decode μ.2.1 pc = .ok (.ireturn, 1)) (h1 : k ≤ mc) (h2 : n ≤ ms) (hQ : Q (some (.int v)) sh R I J) : EV g μ x k n pc lv [.int v] sh R I J := by
  intro H locs ls hJ hq hl
  rw [hZ]
  refine W.widen h1 h2 ?_
  exact W.zret C.1 C.2.1 (C.2.2.2.1.trans hr) (tq_nar_bool hv).1 (fun t ht hW => ⟨some (.int v), sh, R, I, J, rfl, hQ, tq_F.moved hW C.2.2.2.2.2.2.2.2, by rw [ht]; exact hJ⟩) hq hd C.2.2.2.2.1
theorem EV_vret (C : tq_C g μ x) {Q : tq_Q} {mc ms : Nat} (hZ : tq_end g x Q mc ms) (hr : μ.2.2.2 = none) (hd : decode μ.2.1 pc = .ok (.return_, 1)) (h1 : k ≤ mc) (h2 : n ≤ ms) (hQ : Q none sh R I J) : EV g μ x k n pc lv [] sh R I J := by
  intro H locs ls hJ hq hl
  rw [hZ]
  refine W.widen h1 h2 ?_
  exact W.vret C.1 C.2.1 (C.2.2.2.1.trans hr) (fun t ht hW => ⟨none, sh, R, I, J, rfl, hQ, tq_F.moved hW C.2.2.2.2.2.2.2.2, by rw [ht]; exact hJ⟩) hq hd C.2.2.2.2.1
theorem EV_lret (C : tq_C g μ x) {Q : tq_Q} {mc ms : Nat} (hZ : tq_end g x Q mc ms) {v : Int64} (hr : μ.2.2.2 = some .long) (hd : decode μ.2.1 pc = .ok (.lreturn, 1)) (h1 : k ≤ mc) (h2 : n ≤ ms) (hQ : Q (some (.long v)) sh R I J) : EV g μ x k n pc lv [.long v] sh R I J := by
  intro H locs ls hJ hq hl
  rw [hZ]
  refine W.widen h1 h2 ?_
  exact W.lret C.1 C.2.1 (C.2.2.2.1.trans hr) (fun t ht hW => ⟨some (.long v), sh, R, I, J, rfl, hQ, tq_F.moved hW C.2.2.2.2.2.2.2.2, by rw [ht]; exact hJ⟩) hq hd C.2.2.2.2.1
/-! branches -/
theorem EV_if_eq (C : tq_C g μ x) {v : Int32} {off : Int} {tgt : Nat} (hd : decode μ.2.1 pc = .ok (.ifCond .eq off, 3)) (ht : (pc : Int) + off = (tgt : Int)) (k1 : v = 0 → EV g μ x k n tgt lv st sh R I J) (k2 : ¬ v = 0 → EV g μ x k n (pc + 3) lv st sh R I J) : EV g μ x k n pc lv (.int v :: st) sh R I J := fun H locs ls hJ hq hl => lv_if_eq C.1 C.2.1 hd ht (fun h => k1 h H locs ls hJ hq hl) (fun h => k2 h H locs ls hJ hq hl)
theorem EV_if_ne (C : tq_C g μ x) {v : Int32} {off : Int} {tgt : Nat} (hd : decode μ.2.1 pc = .ok (.ifCond .ne off, 3)) (ht : (pc : Int) + off = (tgt : Int)) (k1 : ¬ v = 0 → EV g μ x k n tgt lv st sh R I J) (k2 : v = 0 → EV g μ x k n (pc + 3) lv st sh R I J) : EV g μ x k n pc lv (.int v :: st) sh R I J := fun H locs ls hJ hq hl => lv_if_ne C.1 C.2.1 hd ht (fun h => k1 h H locs ls hJ hq hl) (fun h => k2 h H locs ls hJ hq hl)
theorem EV_if_lt (C : tq_C g μ x) {v : Int32} {off : Int} {tgt : Nat} (hd : decode μ.2.1 pc = .ok (.ifCond .lt off, 3)) (ht : (pc : Int) + off = (tgt : Int)) (k1 : v < 0 → EV g μ x k n tgt lv st sh R I J) (k2 : ¬ v < 0 → EV g μ x k n (pc + 3) lv st sh R I J) : EV g μ x k n pc lv (.int v :: st) sh R I J := fun H locs ls hJ hq hl => lv_if_lt C.1 C.2.1 hd ht (fun h => k1 h H locs ls hJ hq hl) (fun h => k2 h H locs ls hJ hq hl)
theorem EV_if_ge (C : tq_C g μ x) {v : Int32} {off : Int} {tgt : Nat} (hd : decode μ.2.1 pc = .ok (.ifCond .ge off, 3)) (ht : (pc : Int) + off = (tgt : Int)) (k1 : 0 ≤ v → EV g μ x k n tgt lv st sh R I J) (k2 : ¬ 0 ≤ v → EV g μ x k n (pc + 3) lv st sh R I J) : EV g μ x k n pc lv (.int v :: st) sh R I J := fun H locs ls hJ hq hl => lv_if_ge C.1 C.2.1 hd ht (fun h => k1 h H locs ls hJ hq hl) (fun h => k2 h H locs ls hJ hq hl)
theorem EV_if_gt (C : tq_C g μ x) {v : Int32} {off : Int} {tgt : Nat} (hd : decode μ.2.1 pc = .ok (.ifCond .gt off, 3)) (ht : (pc : Int) + off = (tgt : Int)) (k1 : 0 < v → EV g μ x k n tgt lv st sh R I J) (k2 : ¬ 0 < v → EV g μ x k n (pc + 3) lv st sh R I J) : EV g μ x k n pc lv (.int v :: st) sh R I J := fun H locs ls hJ hq hl => lv_if_gt C.1 C.2.1 hd ht (fun h => k1 h H locs ls hJ hq hl) (fun h => k2 h H locs ls hJ hq hl)
theorem EV_if_le (C : tq_C g μ x) {v : Int32} {off : Int} {tgt : Nat} (hd : decode μ.2.1 pc = .ok (.ifCond .le off, 3)) (ht : (pc : Int) + off = (tgt : Int)) (k1 : v ≤ 0 → EV g μ x k n tgt lv st sh R I J) (k2 : ¬ v ≤ 0 → EV g μ x k n (pc + 3) lv st sh R I J) : EV g μ x k n pc lv (.int v :: st) sh R I J := fun H locs ls hJ hq hl => lv_if_le C.1 C.2.1 hd ht (fun h => k1 h H locs ls hJ hq hl) (fun h => k2 h H locs ls hJ hq hl)
theorem EV_icmp_eq (C : tq_C g μ x) {u v : Int32} {off : Int} {tgt : Nat} (hd : decode μ.2.1 pc = .ok (.if_icmp .eq off, 3)) (ht : (pc : Int) + off = (tgt : Int)) (k1 : u = v → EV g μ x k n tgt lv st sh R I J) (k2 : ¬ u = v → EV g μ x k n (pc + 3) lv st sh R I J) : EV g μ x k n pc lv (.int v :: .int u :: st) sh R I J := fun H locs ls hJ hq hl => lv_icmp_eq C.1 C.2.1 hd ht (fun h => k1 h H locs ls hJ hq hl) (fun h => k2 h H locs ls hJ hq hl)
theorem EV_icmp_ne (C : tq_C g μ x) {u v : Int32} {off : Int} {tgt : Nat} (hd : decode μ.2.1 pc = .ok (.if_icmp .ne off, 3)) (ht : (pc : Int) + off = (tgt : Int)) (k1 : ¬ u = v → EV g μ x k n tgt lv st sh R I J) (k2 : u = v → EV g μ x k n (pc + 3) lv st sh R I J) : EV g μ x k n pc lv (.int v :: .int u :: st) sh R I J := fun H locs ls hJ hq hl => lv_icmp_ne C.1 C.2.1 hd ht (fun h => k1 h H locs ls hJ hq hl) (fun h => k2 h H locs ls hJ hq hl)
theorem EV_icmp_lt (C : tq_C g μ x) {u v : Int32} {off : Int} {tgt : Nat} (hd : decode μ.2.1 pc = .ok (.if_icmp .lt off, 3)) (ht : (pc : Int) + off = (tgt : Int)) (k1 : u < v → EV g μ x k n tgt lv st sh R I J) (k2 : ¬ u < v → EV g μ x k n (pc + 3) lv st sh R I J) : EV g μ x k n pc lv (.int v :: .int u :: st) sh R I J := fun H locs ls hJ hq hl => lv_icmp_lt C.1 C.2.1 hd ht (fun h => k1 h H locs ls hJ hq hl) (fun h => k2 h H locs ls hJ hq hl)
theorem EV_icmp_ge (C : tq_C g μ x) {u v : Int32} {off : Int} {tgt : Nat} (hd : decode μ.2.1 pc = .ok (.if_icmp .ge off, 3)) (ht : (pc : Int) + off = (tgt : Int)) (k1 : v ≤ u → EV g μ x k n tgt lv st sh R I J) (k2 : ¬ v ≤ u → EV g μ x k n (pc + 3) lv st sh R I J) : EV g μ x k n pc lv (.int v :: .int u :: st) sh R I J := fun H locs ls hJ hq hl => lv_icmp_ge C.1 C.2.1 hd ht (fun h => k1 h H locs ls hJ hq hl) (fun h => k2 h H locs ls hJ hq hl)
theorem EV_icmp_gt (C : tq_C g μ x) {u v : Int32} {off : Int} {tgt : Nat} (hd : decode μ.2.1 pc = .ok (.if_icmp .gt off, 3)) (ht : (pc : Int) + off = (tgt : Int)) (k1 : v < u → EV g μ x k n tgt lv st sh R I J) (k2 : ¬ v < u → EV g μ x k n (pc + 3) lv st sh R I J) : EV g μ x k n pc lv (.int v :: .int u :: st) sh R I J := fun H locs ls hJ hq hl => lv_icmp_gt C.1 C.2.1 hd ht (fun h => k1 h H locs ls hJ hq hl) (fun h => k2 h H locs ls hJ hq hl)
theorem EV_icmp_le (C : tq_C g μ x) {u v : Int32} {off : Int} {tgt : Nat} (hd : decode μ.2.1 pc = .ok (.if_icmp .le off, 3)) (ht : (pc : Int) + off = (tgt : Int)) (k1 : u ≤ v → EV g μ x k n tgt lv st sh R I J) (k2 : ¬ u ≤ v → EV g μ x k n (pc + 3) lv st sh R I J) : EV g μ x k n pc lv (.int v :: .int u :: st) sh R I J := fun H locs ls hJ hq hl => lv_icmp_le C.1 C.2.1 hd ht (fun h => k1 h H locs ls hJ hq hl) (fun h => k2 h H locs ls hJ hq hl)
theorem EV_ifnull (C : tq_C g μ x) {a : Nat} {off : Int} (hd : decode μ.2.1 pc = .ok (.ifnull off, 3)) (kk : EV g μ x k n (pc + 3) lv st sh R I J) : EV g μ x k n pc lv (.ref a :: st) sh R I J := fun H locs ls hJ hq hl => lv_ifnull C.1 C.2.1 hd (kk H locs ls hJ hq hl)
theorem EV_ifnonnull (C : tq_C g μ x) {a : Nat} {off : Int} {tgt : Nat} (hd : decode μ.2.1 pc = .ok (.ifnonnull off, 3)) (ht : (pc : Int) + off = (tgt : Int)) (kk : EV g μ x k n tgt lv st sh R I J) : EV g μ x k n pc lv (.ref a :: st) sh R I J := fun H locs ls hJ hq hl => lv_ifnonnull C.1 C.2.1 hd ht (kk H locs ls hJ hq hl)
theorem EV_goto (C : tq_C g μ x) {off : Int} {tgt : Nat} (hd : decode μ.2.1 pc = .ok (.goto off, 3)) (ht : (pc : Int) + off = (tgt : Int)) (kk : EV g μ x k n tgt lv st sh R I J) : EV g μ x k n pc lv st sh R I J := fun H locs ls hJ hq hl => lv_goto C.1 C.2.1 hd ht (kk H locs ls hJ hq hl)
theorem EV_lookup (C : tq_C g μ x) {v : Int32} {dflt : Int} {ps : Array (Int × Int)} {len : Nat} {off : Int} {tgt : Nat} (hd : decode μ.2.1 pc = .ok (.lookupswitch dflt ps, len)) (hp : (ps.toList.zip (ps.toList.drop 1)).all (fun (a, next) => a.1 < next.1) = true) (ho : Op.lookupswitch.offset ps.toList dflt v.toInt = off) (ht : (pc : Int) + off = (tgt : Int)) (kk : EV g μ x k n tgt lv st sh R I J) : EV g μ x k n pc lv (.int v :: st) sh R I J := fun H locs ls hJ hq hl => lv_lookup C.1 C.2.1 hd hp ho ht (kk H locs ls hJ hq hl)
theorem EV_tableOut (C : tq_C g μ x) {v : Int32} {dflt lo hi : Int} {offs : Array Int} {len : Nat} {tgt : Nat} (hd : decode μ.2.1 pc = .ok (.tableswitch dflt lo hi offs, len)) (h : v.toInt < lo ∨ hi < v.toInt) (ht : (pc : Int) + dflt = (tgt : Int)) (kk : EV g μ x k n tgt lv st sh R I J) : EV g μ x k n pc lv (.int v :: st) sh R I J := fun H locs ls hJ hq hl => lv_tableOut C.1 C.2.1 hd h ht (kk H locs ls hJ hq hl)
theorem EV_tableIn (C : tq_C g μ x) {v : Int32} {dflt lo hi : Int} {offs : Array Int} {len : Nat} {off : Int} {tgt : Nat} (hd : decode μ.2.1 pc = .ok (.tableswitch dflt lo hi offs, len)) (h1 : ¬ v.toInt < lo) (h2 : ¬ hi < v.toInt) (ho : offs[(v.toInt - lo).toNat]? = some off) (ht : (pc : Int) + off = (tgt : Int)) (kk : EV g μ x k n tgt lv st sh R I J) : EV g μ x k n pc lv (.int v :: st) sh R I J := fun H locs ls hJ hq hl => lv_tableIn C.1 C.2.1 hd h1 h2 ho ht (kk H locs ls hJ hq hl)
theorem EV_idiv (C : tq_C g μ x) {u v : Int32} (hd : decode μ.2.1 pc = .ok (.idiv, 1)) (hv : ¬ v = 0) (kk : EV g μ x k n (pc + 1) lv (.int (u / v) :: st) sh R I J) : EV g μ x k n pc lv (.int v :: .int u :: st) sh R I J := fun H locs ls hJ hq hl => lv_idiv C.1 C.2.1 hd hv (kk H locs ls hJ hq hl)
theorem EV_irem (C : tq_C g μ x) {u v : Int32} (hd : decode μ.2.1 pc = .ok (.irem, 1)) (hv : ¬ v = 0) (kk : EV g μ x k n (pc + 1) lv (.int (tq_rem u v) :: st) sh R I J) : EV g μ x k n pc lv (.int v :: .int u :: st) sh R I J := fun H locs ls hJ hq hl => lv_irem C.1 C.2.1 hd hv (kk H locs ls hJ hq hl)
theorem EV_lcmp (C : tq_C g μ x) {u v : Int64} (hd : decode μ.2.1 pc = .ok (.lcmp, 1)) (kk : EV g μ x k n (pc + 1) lv (.int (lg_cmp u v) :: st) sh R I J) : EV g μ x k n pc lv (.long v :: .long u :: st) sh R I J := fun H locs ls hJ hq hl => W.lcmp C.1 C.2.1 hd (kk H locs ls hJ hq hl)
end TQ3
