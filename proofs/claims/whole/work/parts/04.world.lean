/-! THE ABSTRACT MACHINE: a heap is a list of shapes and three stores (ints, references, one long); a reference is a cell's number (the n-th cell made), 1000 and on are the outer rows (the script, three static rows) -/
abbrev tq_S : Type := Nat ⊕ (Nat × Nat)
abbrev tq_R : Type := Nat → Nat → Option Nat
abbrev tq_I : Type := Nat → Nat → Int32
/-- launch; classes and slots; array classes; the first new address; the outer rows' addresses; the start's heap; the script's length, its ints -/
abbrev tq_G : Type := Launch × va_G × (Nat → ClassId) × Nat × (Nat → Nat) × Heap × Nat × (Nat → Int32)
abbrev tq_gl (g : tq_G) : Launch := g.1
abbrev tq_gD (g : tq_G) : va_G := g.2.1
abbrev tq_gA (g : tq_G) : Nat → ClassId := g.2.2.1
abbrev tq_gs (g : tq_G) : Nat := g.2.2.2.1
abbrev tq_go (g : tq_G) : Nat → Nat := g.2.2.2.2.1
abbrev tq_gH (g : tq_G) : Heap := g.2.2.2.2.2.1
abbrev tq_gn (g : tq_G) : Nat := g.2.2.2.2.2.2.1
abbrev tq_gx (g : tq_G) : Nat → Int32 := g.2.2.2.2.2.2.2
def tq_aside : List Int32 := [0, 1, 1, 1, 0, -1, -1, -1]
def tq_down : List Int32 := [-1, -1, 0, 1, 1, 1, 0, -1]
def tq_pm : List Int32 := [0, 1, 4, 5, 7, 16, 17, 20, 21, 23, 28, 29, 31, 64, 65, 68, 69, 71, 80, 81, 84, 85, 87, 92, 93, 95, 112, 113, 116, 117, 119, 124, 125, 127, 193, 197, 199, 209, 213, 215, 221, 223, 241, 245, 247, 253, 255]
def tq_oL (g : tq_G) (i : Nat) : Nat := match i with
  | 0 => tq_gn g
  | 1 => 8
  | 2 => 8
  | _ => 47
def tq_oX (g : tq_G) (i j : Nat) : Int32 := match i with
  | 0 => tq_gx g j
  | 1 => tq_aside.getD j 0
  | 2 => tq_down.getD j 0
  | _ => tq_pm.getD j 0
def tq_ad (g : tq_G) (a : Nat) : Nat := if a < 1000 then tq_gs g + a else tq_go g (a - 1000)
def tq_v (g : tq_G) (v : Value) : Value := match v with
  | .ref a => .ref (tq_ad g a)
  | w => w
theorem tq_v_cat (g : tq_G) (v : Value) : (tq_v g v).category = v.category := by cases v <;> rfl
theorem tq_ad_lt {g : tq_G} {a : Nat} (h : a < 1000) : tq_ad g a = tq_gs g + a := if_pos h
def tq_ov (r : Option Nat) : Value := match r with
  | none => .null
  | some a => .ref a
theorem tq_v_ov (g : tq_G) (r : Option Nat) : tq_v g (tq_ov r) = va_rf (r.map (tq_ad g)) := by cases r <;> rfl
/-- a field's value, abstract -/
def tq_av (R : tq_R) (I : tq_I) (J : Int64) (ty : FieldType) (a k : Nat) : Value := match ty with
  | .int => .int (I a k)
  | .boolean => .int (I a k)
  | .long => .long J
  | _ => tq_ov (R a k)
def tq_fv (g : tq_G) (R : tq_R) (I : tq_I) (J : Int64) (ty : FieldType) (a k : Nat) : Value := tq_v g (tq_av R I J ty a k)
def tq_arr (g : tq_G) (R : tq_R) (I : tq_I) (t n a : Nat) : Cell := match t with
  | 0 => arrV (tq_gA g 0) n (fun j => .int (I a j))
  | 1 => arrV (tq_gA g 1) n (fun j => .int (I a j))
  | _ => arrV (tq_gA g 2) n (fun j => va_rf ((R a j).map (tq_ad g)))
def tq_at (g : tq_G) (R : tq_R) (I : tq_I) (J : Int64) (s : tq_S) (a : Nat) (H : Heap) : Prop := match s with
  | .inl c => t_OB (tq_gs g + a) ((tq_gD g).1 c) (tq_nf c) ((tq_gD g).2 c) H (fun k => tq_fv g R I J (tq_ty c k) a k)
  | .inr (t, n) => H[tq_gs g + a]? = some (tq_arr g R I t n a)
def tq_J (g : tq_G) (sh : List tq_S) (R : tq_R) (I : tq_I) (J : Int64) (H : Heap) : Prop := H.size = tq_gs g + sh.length ∧ sh.length ≤ 1000 ∧ (∀ (a : Nat) (s : tq_S), sh[a]? = some s → tq_at g R I J s a H) ∧ ∀ q : Nat, q < tq_gs g → H[q]? = (tq_gH g)[q]?
def tq_tys (g : tq_G) : List (ClassId × FieldType) := [(tq_gA g 0, .int), (tq_gA g 1, .boolean), (tq_gA g 2, .object RX8)]
abbrev tq_gf (g : tq_G) : Nat → Prop := fun q => tq_gs g ≤ q
/-- what holds of the tables at any state of the run -/
def tq_F (g : tq_G) (s : State) : Prop := va_K (tq_gD g) tq_cl (tq_tys g) s ∧ (∀ q ∈ tq_fn, va_Nw (tq_fnw q) s) ∧ (∀ q ∈ tq_mn, va_Nw (tq_mnw q) s) ∧ va_AO RX8 s ∧ (∀ i, 1 ≤ i → i ≤ 3 → va_Z "TerrainTiler$Land" (tq_sn i) "[I" (.ref (tq_go g i)) (tq_gf g) s (tq_gH g)) ∧ ∀ i, i ≤ 3 → va_T .int (tq_go g i) (tq_oL g i) (fun j => .int (tq_oX g i j)) (tq_gf g) s (tq_gH g)
theorem tq_F.moved {g : tq_G} {s U : State} (hW : s.WarmedH U.vm) (h : tq_F g s) : tq_F g U :=
  ⟨va_K.moved hW.alike h.1, fun q hq => va_Nw.warmF hW (h.2.1 q hq), fun q hq => va_Nw.warmM hW (h.2.2.1 q hq), va_AO.moved hW.alike h.2.2.2.1, fun i h1 h2 => va_Z.moved hW.alike (h.2.2.2.2.1 i h1 h2), fun i h1 => va_T.moved hW.alike (h.2.2.2.2.2 i h1)⟩
theorem tq_F.same {g : tq_G} {s U : State} (hv : s.vm = U.vm) (h : tq_F g s) : tq_F g U := by
  have ha : s.vm.Alike U.vm := by rw [hv]; exact Vm.Alike.refl _
  exact ⟨va_K.moved ha h.1, fun q hq => va_Nw.same rfl hv (h.2.1 q hq), fun q hq => va_Nw.same rfl hv (h.2.2.1 q hq), va_AO.moved ha h.2.2.2.1, fun i h1 h2 => va_Z.moved ha (h.2.2.2.2.1 i h1 h2), fun i h1 => va_T.moved ha (h.2.2.2.2.2 i h1)⟩
def tq_L (g : tq_G) (ls : Array Slot) (nL : Nat) (lv : List (Option Value)) : Prop := ls.size = nL ∧ lv_wf ls ∧ ∀ (i : Nat) (v : Value), lv[i]? = some (some v) → ls[i]? = some (.val (tq_v g v))
/-- program, environment, state at the entry, method, arguments, frames below, method, code, room, what is to be reached -/
abbrev tq_X : Type := Program × Env × State × MethodId × Array Value × List Frame × Method × Code × Room × (State → Prop)
abbrev tq_xs (x : tq_X) : State := x.2.2.1
abbrev tq_xm (x : tq_X) : MethodId := x.2.2.2.1
abbrev tq_xa (x : tq_X) : Array Value := x.2.2.2.2.1
abbrev tq_xb (x : tq_X) : List Frame := x.2.2.2.2.2.1
abbrev tq_xt (x : tq_X) : Method := x.2.2.2.2.2.2.1
abbrev tq_xc (x : tq_X) : Code := x.2.2.2.2.2.2.2.1
abbrev tq_xR (x : tq_X) : Room := x.2.2.2.2.2.2.2.2.1
abbrev tq_xZ (x : tq_X) : State → Prop := x.2.2.2.2.2.2.2.2.2
def tq_C (g : tq_G) (μ : tq_M) (x : tq_X) : Prop := x.1.tables.exec = Jvm.exec ∧ (tq_xc x).code = μ.2.1 ∧ (tq_xc x).maxLocals = μ.2.2.1 ∧ (tq_xt x).sig.returnType = μ.2.2.2 ∧ (tq_xt x).locks = false ∧ (tq_xt x).name = μ.1.name ∧ (tq_xs x).vm.findClass μ.1.cls = some (tq_xm x).cls ∧ (∀ w ∈ tq_ws, w.before (tq_xa x) (tq_xs x) = true) ∧ tq_F g (tq_xs x)
/-- THE JUDGEMENT: from this place, with these locals, this stack, this heap, the machine comes to what is to be reached -/
def EV (g : tq_G) (μ : tq_M) (x : tq_X) (k n pc : Nat) (lv : List (Option Value)) (st : List Value) (sh : List tq_S) (R : tq_R) (I : tq_I) (J : Int64) : Prop :=
  ∀ (H : Heap) (locs : List Loc) (ls : Array Slot), tq_J g sh R I J H → (∀ q ∈ locs, tq_gs g ≤ q.base) → tq_L g ls μ.2.2.1 lv →
    W x.1 (tq_gl g) x.2.1 (tq_xR x) (tq_xs x) (tq_xm x) (tq_xa x) (tq_xb x) (tq_xt x) (tq_xc x) H locs k n (tq_xZ x) (F0 (tq_xm x) pc ls (st.map (tq_v g)))
abbrev tq_Q : Type := Option Value → List tq_S → tq_R → tq_I → Int64 → Prop
def tq_Qc (g : tq_G) (Q : tq_Q) : Array Value → State → Outcome → State → Prop := fun _ _ o t => ∃ (r : Option Value) (sh : List tq_S) (R : tq_R) (I : tq_I) (J : Int64), o = .returned (r.map (tq_v g)) ∧ Q r sh R I J ∧ tq_F g t ∧ tq_J g sh R I J t.heap
def tq_rm (d mc ms : Nat) : Room := { frames := d, cells := mc, slots := ms, locals := 40 * d }
def tq_Pc (g : tq_G) (av : List Value) (sh : List tq_S) (R : tq_R) (I : tq_I) (J : Int64) : Array Value → State → Prop := va_Pc (av.map (tq_v g)) (fun U => tq_F g U ∧ tq_J g sh R I J U.heap)
/-- A METHOD'S CONTRACT -/
def CT (g : tq_G) (μ : tq_M) (d mc ms : Nat) (av : List Value) (sh : List tq_S) (R : tq_R) (I : tq_I) (J : Int64) (Q : tq_Q) : Prop :=
  Met (tq_gl g) μ.1 (.code μ.1 μ.2.1 μ.2.2.1 μ.2.2.2 :: tq_ws) (tq_rm d mc ms) (tq_Pc g av sh R I J) (tq_Qc g Q) mc ms (tq_gf g)
/-- the locals at a method's entry -/
def tq_en : List Value → List (Option Value)
  | [] => []
  | v :: t => if v.category = 2 then some v :: none :: tq_en t else some v :: tq_en t
theorem tq_en_args (g : tq_G) : ∀ (av : List Value) (b i : Nat) (v : Value), (tq_en av)[i]? = some (some v) → (b + i, tq_v g v) ∈ lv_args b (av.map (tq_v g)) := by
  intro av
  induction av with
  | nil => intro b i v h; simp [tq_en] at h
  | cons w t ih =>
    intro b i v h
    rw [List.map_cons]
    unfold lv_args
    rw [tq_v_cat]
    unfold tq_en at h
    by_cases hc : w.category = 2
    · rw [if_pos hc] at h ⊢
      match i, h with
      | 0, h => simp at h; subst h; exact List.mem_cons_self
      | 1, h => simp at h
      | i + 2, h =>
        have := ih (b + 2) i v (by simpa using h)
        rw [show b + (i + 2) = b + 2 + i by omega]
        exact List.mem_cons_of_mem _ this
    · rw [if_neg hc] at h ⊢
      match i, h with
      | 0, h => simp at h; subst h; exact List.mem_cons_self
      | i + 1, h =>
        have := ih (b + 1) i v (by simpa using h)
        rw [show b + (i + 1) = b + 1 + i by omega]
        exact List.mem_cons_of_mem _ this
theorem tq_entry (g : tq_G) (av : List Value) {n : Nat} (h : (lg_sl (av.map (tq_v g))).length ≤ n) : tq_L g ((lg_sl (av.map (tq_v g)) ++ List.replicate (n - (lg_sl (av.map (tq_v g))).length) Slot.unset).toArray) n (tq_en av) := by
  obtain ⟨h1, h2, h3⟩ := lv_entry (av.map (tq_v g)) h
  refine ⟨h1, h2, fun i v hv => ?_⟩
  have := tq_en_args g av 0 i v hv
  rw [Nat.zero_add] at this
  exact h3 _ this
theorem tq_sl_len (g : tq_G) (av : List Value) : (lg_sl (av.map (tq_v g))).length = (tq_en av).length := by
  induction av with
  | nil => rfl
  | cons w t ih =>
    have e : lg_sl ((w :: t).map (tq_v g)) = (if (tq_v g w).category = 2 then [.val (tq_v g w), .second] else [.val (tq_v g w)]) ++ lg_sl (t.map (tq_v g)) := by simp [lg_sl]
    rw [e, List.length_append, ih, tq_v_cat, show tq_en (w :: t) = (if w.category = 2 then some w :: none :: tq_en t else some w :: tq_en t) from rfl]
    by_cases hc : w.category = 2
    · rw [if_pos hc, if_pos hc]; simp; omega
    · rw [if_neg hc, if_neg hc]; simp; omega
set_option maxHeartbeats 1000000 in
theorem CT.of {g : tq_G} {μ : tq_M} {d mc ms N : Nat} {av : List Value} {sh : List tq_S} {R : tq_R} {I : tq_I} {J : Int64} {Q : tq_Q} (hm : tq_mok μ N) (hl : (tq_en av).length ≤ μ.2.2.1)
    (body : ∀ x : tq_X, tq_C g μ x → tq_xR x = tq_rm d mc ms → (tq_xZ x = MQ (tq_xb x) (tq_Qc g Q) (tq_xa x) (tq_xs x) mc ms (tq_gf g)) → EV g μ x 0 0 0 (tq_en av) [] sh R I J) : CT g μ d mc ms av sh R I J Q := by
  refine Met.ofW (cc := μ.2.1) (maxL := μ.2.2.1) (ret := μ.2.2.2) hm.2.2.1 rfl ?_
  intro p e s m args below meth c s₁ B hml hv
  obtain ⟨rfl, hF, hJ⟩ := hv
  have hts := atoms_spec (ws := .code μ.1 μ.2.1 μ.2.2.1 μ.2.2.2 :: tq_ws) B.pre
  have hC : tq_C g μ (p, e, s, m, (av.map (tq_v g)).toArray, below, meth, c, tq_rm d mc ms, MQ below (tq_Qc g Q) (av.map (tq_v g)).toArray s mc ms (tq_gf g)) :=
    ⟨B.exec, B.bytes, hml, B.returns, B.notSynchronized, (name_of_methodNamed B.named B.method).1, findClass_of_methodNamed B.named, fun w hw => hts w (List.mem_cons_of_mem _ hw), hF⟩
  have := body _ hC rfl rfl s.heap [] _ hJ (fun q h => by cases h) (tq_entry g av (n := μ.2.2.1) (by rw [tq_sl_len]; exact hl))
  rw [lg_entry_eq]
  exact this
