/-! THE CLAIM OUT OF ONE WALK OF THE LAW'S BODY. Your part is whole_start (and what it stands on); all else here is the same for every law, but numbers. -/
def R_law : String := "TerrainTilerLaw"
def lw_P (b : Addr) (xs : List Int32) (args : Array Value) (s : State) : Prop := args = #[.ref b] ∧ s.IntsAt b xs ∧ xs.length ≤ 3072 ∧ (Jvm.Cond.and given_1 narrow_1).before args s = true
def lw_Q (_ : Array Value) (s : State) (o : Outcome) (t : State) : Prop := o = .returned (some (.int 1)) ∧ Framed s o t [] 600000 7302249
def lw_Z (below : List Frame) (a : Array Value) (s : State) : State → Prop := fun t => ∃ o, t.status = .running ∧ Ended t below o ∧ lw_Q a s o t
/-- the law's own end, with 1 on the stack, nothing written that was there before, its room as the claim has it -/
theorem lw_ret {p : Program} {l : Launch} {e : Env} {s : State} {m : MethodId} {below : List Frame} {meth : Method} {c : Code} {b : Nat} (hx : p.tables.exec = Jvm.exec) (hb : c.code = code) (hr : meth.sig.returnType = ret) (hlocks : meth.locks = false) {pc : Nat} {H : Heap} {ls : Array Slot} (hdg : decode code pc = .ok (.ireturn, 1)) : W p l e room_1 s m #[Value.ref b] below meth c H [] 600000 7302249 (lw_Z below #[Value.ref b] s) (F0 m pc ls [.int 1]) := by
  intro T hT X
  obtain ⟨fs, hret, hrun, hended, hW, hframe⟩ := X.leave (v := some (.int 1)) (hlocks := hlocks) (fun h => by rw [hr] at h; cases h)
  have hmeth' : T.vm.method? m = some meth := X.method'
  refine ⟨T.setFrames fs, ?_, .returned (some (.int 1)), hrun, hended, rfl, ⟨_, rfl⟩, hW, hframe⟩
  jvm_step X.here [X.here.top, hx, hb, hdg, hmeth', hr, ret, narrow_b1]
  (try refine ⟨rfl, ?_⟩); (try refine ⟨rfl, ?_⟩)
  first | (intro acts; rw [hret _ acts rfl rfl rfl]) | rw [hret _ _ rfl rfl rfl]
  exact Steps.refl _
/-- what holds at the law's entry: the machine, the code, the tables' words (any of lw_tbl by 'hts w (by decide +kernel)'), the script of L ints xs at the cell b, what the Statement gives of the start (any of its parts by flat_of_before) -/
def lw_At (p : Program) (s : State) (m : MethodId) (meth : Method) (c : Code) (b L : Nat) (xs : Nat → Int32) : Prop :=
  p.tables.exec = Jvm.exec ∧ c.code = code ∧ meth.sig.returnType = ret ∧ c.maxLocals = 4 ∧ s.vm.findClass R_law = some m.cls ∧ (∀ w ∈ lw_tbl, w.before #[Value.ref b] s = true) ∧ va_X b L xs s s.heap ∧ b < s.heap.size ∧ meth.locks = false ∧ meth.name = yL_law.name ∧ (Jvm.Cond.and given_1 narrow_1).before #[Value.ref b] s = true
theorem lw_known {s : State} {args : Array Value} (hts : ∀ w ∈ tq_ws, w.before args s = true) (c0 : ClassId) : ∃ (dC : Nat → ClassId) (dI : Nat → Nat → Nat), ∀ (k : Nat) (q : vw_C), tq_cl[k]? = some q → u_Kn s q.1 q.2.1 q.2.2 (dC k) (dI k) := by
  have h : ∀ k : Nat, ∃ z : ClassId × (Nat → Nat), ∀ q : vw_C, tq_cl[k]? = some q → u_Kn s q.1 q.2.1 q.2.2 z.1 z.2 := by
    intro k
    cases hk : tq_cl[k]? with
    | none => exact ⟨(c0, fun _ => 0), fun q hq => by cases hq⟩
    | some q =>
      have hk13 : k < 13 := (List.getElem?_eq_some_iff.mp hk).1
      have hcn := tq_cn_cl k hk13
      rw [hk] at hcn
      have hcn' : q.1 = tq_cn k := Option.some.inj hcn
      have hi := hts _ (tq_anyin (tq_ini k hk13).1 rfl)
      obtain ⟨cC, iS, hKn⟩ := u_known (C := q.1) (T := q.2.1) (N := q.2.2) (n := tq_nf k) hts (tq_lay hk) (by rw [hcn']; exact hi)
      exact ⟨(cC, iS), fun q' hq' => by cases hq'; exact hKn⟩
  exact ⟨fun k => (Classical.choose (h k)).1, fun k => (Classical.choose (h k)).2, fun k => Classical.choose_spec (h k)⟩
theorem lw_arr {s : State} {args : Array Value} (hts : ∀ w ∈ lw_tbl, w.before args s = true) : ∃ gA : Nat → ClassId, ∀ (k : Nat) (q : ClassId × FieldType), ([(gA 0, .int), (gA 1, .boolean), (gA 2, .object RX8)] : List (ClassId × FieldType))[k]? = some q → ArrOfT s q.1 q.2 ∧ va_RA s q.1 q.2 := by
  obtain ⟨c1, k1, comp1, a1, a2, a3⟩ := Cond.arrayClass_spec (hts (.arrayClass .int) (by decide +kernel))
  obtain ⟨c2, k2, comp2, b1, b2, b3⟩ := Cond.arrayClass_spec (hts (.arrayClass .boolean) (by decide +kernel))
  obtain ⟨comp3, c3, k3, d1, -, d3, d4, d5⟩ := Cond.arrayOver_spec (hts (.arrayOver (.object RX8)) (by decide +kernel))
  refine ⟨fun i => if i = 0 then c1 else if i = 1 then c2 else c3, fun k q hq => ?_⟩
  match k, hq with
  | 0, hq => cases hq; exact ⟨fun n z => ⟨fun k h => (by cases h), k1, a2, comp1, a3⟩, a1⟩
  | 1, hq => cases hq; exact ⟨fun n z => ⟨fun k h => (by cases h), k2, b2, comp2, b3⟩, b1⟩
  | 2, hq => cases hq; exact ⟨fun n z => ⟨fun k h => (by cases h), k3, d3, comp3, d4⟩, ⟨k3, comp3, d3, d4, d1, d5⟩⟩
  | k + 3, hq => simp at hq
abbrev lw_st (n : String) : Term := .static "TerrainTiler$Land" n "[I"
theorem lw_in1 : Cond.arrayOf (lw_st "ASIDE") .int ∈ flatC (Cond.and given_1 narrow_1) ∧ Cond.eq (.length (lw_st "ASIDE")) (.int (Int32.ofNat 8)) ∈ flatC (Cond.and given_1 narrow_1) ∧ ∀ j, j < 8 → Cond.eq (.elem (lw_st "ASIDE") (.int (Int32.ofNat j))) (.int (tq_aside.getD j 0)) ∈ flatC (Cond.and given_1 narrow_1) := by decide +kernel
theorem lw_in2 : Cond.arrayOf (lw_st "DOWN") .int ∈ flatC (Cond.and given_1 narrow_1) ∧ Cond.eq (.length (lw_st "DOWN")) (.int (Int32.ofNat 8)) ∈ flatC (Cond.and given_1 narrow_1) ∧ ∀ j, j < 8 → Cond.eq (.elem (lw_st "DOWN") (.int (Int32.ofNat j))) (.int (tq_down.getD j 0)) ∈ flatC (Cond.and given_1 narrow_1) := by decide +kernel
theorem lw_in3 : Cond.arrayOf (lw_st "PATH_MASKS") .int ∈ flatC (Cond.and given_1 narrow_1) ∧ Cond.eq (.length (lw_st "PATH_MASKS")) (.int (Int32.ofNat 47)) ∈ flatC (Cond.and given_1 narrow_1) ∧ ∀ j, j < 47 → Cond.eq (.elem (lw_st "PATH_MASKS") (.int (Int32.ofNat j))) (.int (tq_pm.getD j 0)) ∈ flatC (Cond.and given_1 narrow_1) := by decide +kernel
theorem lw_stat {args : Array Value} {s : State} {n : String} {N : Nat} {f : Nat → Int32} {A : Nat → Prop} (hN : N < 2 ^ 31) (hs : ∀ w ∈ flatC (Cond.and given_1 narrow_1), w.before args s = true) (h : Cond.arrayOf (lw_st n) .int ∈ flatC (Cond.and given_1 narrow_1) ∧ Cond.eq (.length (lw_st n)) (.int (Int32.ofNat N)) ∈ flatC (Cond.and given_1 narrow_1) ∧ ∀ j, j < N → Cond.eq (.elem (lw_st n) (.int (Int32.ofNat j))) (.int (f j)) ∈ flatC (Cond.and given_1 narrow_1)) (hl : (Cond.laysStatic "TerrainTiler$Land" n "[I").before args s = true) (hini : (Cond.initialized "TerrainTiler$Land").before args s = true) (hA : ∀ a : Nat, a < s.heap.size → ¬ A a) : ∃ t : Nat, va_Z "TerrainTiler$Land" n "[I" (.ref t) A s s.heap ∧ va_T .int t N (fun j => .int (f j)) A s s.heap := by
  obtain ⟨t, h1, h2⟩ := va_Tof (f := fun j => .int (f j)) hN (hs _ h.1) (va_eqt (hs _ h.2.1)) (fun j hj => va_eqt (hs _ (h.2.2 j hj))) hA
  exact ⟨t, va_Zref hl hini h1 hA, h2⟩
theorem d_end : decode code 1418 = .ok (.ireturn, 1) := by decide +kernel
theorem whole_start {p : Program} {e : Env} {s : State} {m : MethodId} {below : List Frame} {meth : Method} {c : Code} (l : Launch) (hflags : l.flags = flags0) {b L : Nat} {xs : Nat → Int32} (hL : L ≤ 3072) (C0 : lw_At p s m meth c b L xs) : W p l e room_1 s m #[Value.ref b] below meth c s.heap [] 0 0 (lw_Z below #[Value.ref b] s) (entryFrame m ([Value.ref b] : List Value).toArray 4) := by
  obtain ⟨hx, hb, hr, hml, hown, hts, hX, hbl, hlocks, hname, hgv⟩ := C0
  have htw : ∀ w ∈ tq_ws, w.before #[Value.ref b] s = true := fun w hw => hts w (List.mem_filter.mp hw).1
  have hA : ∀ a : Nat, a < s.heap.size → ¬ (fun q : Nat => s.heap.size ≤ q) a := fun a ha => Nat.not_le.mpr ha
  obtain ⟨dC, dI, hKc⟩ := lw_known htw m.cls
  obtain ⟨gA, hKa⟩ := lw_arr hts
  have hs := flat_of_before _ hgv
  have hini := hts (.initialized "TerrainTiler$Land") (by decide +kernel)
  obtain ⟨t1, z1, y1⟩ := lw_stat (A := fun q : Nat => s.heap.size ≤ q) (by decide) hs lw_in1 (hts (.laysStatic "TerrainTiler$Land" "ASIDE" "[I") (by decide +kernel)) hini hA
  obtain ⟨t2, z2, y2⟩ := lw_stat (A := fun q : Nat => s.heap.size ≤ q) (by decide) hs lw_in2 (hts (.laysStatic "TerrainTiler$Land" "DOWN" "[I") (by decide +kernel)) hini hA
  obtain ⟨t3, z3, y3⟩ := lw_stat (A := fun q : Nat => s.heap.size ≤ q) (by decide) hs lw_in3 (hts (.laysStatic "TerrainTiler$Land" "PATH_MASKS" "[I") (by decide +kernel)) hini hA
  have y0 : va_T .int b L (fun j => .int (xs j)) (fun q : Nat => s.heap.size ≤ q) s s.heap := by
    obtain ⟨scr, x1, x2, x3, x4, x5⟩ := hX
    exact ⟨scr, x1, x2, x3, by omega, by rw [x4], x5, hA b hbl⟩
  let go : Nat → Nat := fun i => if i = 0 then b else if i = 1 then t1 else if i = 2 then t2 else t3
  let g : tq_G := (l, (dC, dI), gA, s.heap.size, go, s.heap, L, xs)
  let x0 : tq_X := (p, e, s, m, #[Value.ref b], below, meth, c, room_1, lw_Z below #[Value.ref b] s)
  have hF : tq_F g s := by
    refine ⟨⟨hKc, hKa⟩, fun q hq => ?_, fun q hq => ?_, va_AO.of (hts (.arrayOver (.object RX8)) (by decide +kernel)), fun i h1 h3 => ?_, fun i h3 => ?_⟩
    · have := List.all_eq_true.mp tq_fn_ok q hq
      simp only [Bool.and_eq_true, decide_eq_true_eq] at this
      exact va_Nw.of rfl (hts _ (List.mem_of_getElem? this.1))
    · have := List.all_eq_true.mp tq_mn_ok q hq
      exact va_Nw.of rfl (hts _ (List.mem_of_getElem? (of_decide_eq_true this)))
    · rcases (show i = 1 ∨ i = 2 ∨ i = 3 by omega) with rfl | rfl | rfl
      · exact z1
      · exact z2
      · exact z3
    · rcases (show i = 0 ∨ i = 1 ∨ i = 2 ∨ i = 3 by omega) with rfl | rfl | rfl | rfl
      · exact y0
      · exact y1
      · exact y2
      · exact y3
  have hC : tq_C g mL_law x0 := ⟨hx, hb, hml, hr, hlocks, hname, hown, htw, hF⟩
  have hR : tq_ht x0 2048 600000 7302249 := ⟨rfl, Nat.le_of_ble_eq_true rfl, rfl, rfl⟩
  have kend : ∀ (k n i : Nat) (I : tq_I) (J : Int64), k ≤ 600000 → n ≤ 7302249 → EV g mL_law x0 k n 1417 [some (.ref 1000), some (.ref 0), some (.ref 117), some (.int (nI i))] [] (tq_SC ++ tq_SR) tq_RR I J := by
    intro k n i I J hk hn
    refine EV_blk (own := 13) hC rfl [(.iconst 1, 0, 0, 0, (nI 1))] (pc' := 1418) (by decide +kernel) (lv' := [some (.ref 1000), some (.ref 0), some (.ref 117), some (.int (nI i))]) (st' := [.int (nI 1)]) (I' := I) (J' := J) rfl ?_
    intro H locs ls hJ hq hl
    refine va_forget (fun q hq' => hq q hq') ?_
    refine W.widen hk hn ?_
    exact lw_ret hx hb hr hlocks d_end
  have hev : EV g mL_law x0 0 0 0 (tq_en [.ref 1000]) [] (tx_A.take 0) (fun _ _ => none) (fun _ _ => 0) 0 := EV_en (lv' := [some (.ref 1000), none, none, none]) 3 rfl (lw_entry hC hR hL kend)
  have hJ0 : tq_J g (tx_A.take 0) (fun _ _ => none) (fun _ _ => 0) 0 s.heap := ⟨rfl, Nat.zero_le _, fun a u hu => by simp at hu, fun q _ => rfl⟩
  have hW := hev s.heap [] _ hJ0 (fun q h => by cases h) (tq_entry g [.ref 1000] (n := 4) (Nat.le_of_ble_eq_true rfl))
  rw [lg_entry_eq]
  exact hW
