/-! new cells; the copy; the library's own methods; the long field -/
section TQ5
variable {g : tq_G} {μ : tq_M} {x : tq_X} {k n pc : Nat} {lv : List (Option Value)} {st : List Value} {sh : List tq_S} {R : tq_R} {I : tq_I} {J : Int64}
/-- a fresh cell's places -/
def tq_z (I : tq_I) (a : Nat) : tq_I := fun b j => if b = a then 0 else I b j
def tq_zR (R : tq_R) (a : Nat) : tq_R := fun b j => if b = a then none else R b j
theorem tq_J.push {H H1 : Heap} {s : tq_S} (hJ : tq_J g sh R I J H) (hlen : sh.length < 1000) (hz : H1.size = H.size + 1) (ho : ∀ q, q < H.size → H1[q]? = H[q]?) (hn : tq_at g (tq_zR R sh.length) (tq_z I sh.length) J s sh.length H1) : tq_J g (sh ++ [s]) (tq_zR R sh.length) (tq_z I sh.length) J H1 := by
  refine ⟨by rw [hz, hJ.1, List.length_append]; simp; omega, by rw [List.length_append]; simp; omega, fun a u hu => ?_, fun q hq => by rw [ho q (by rw [hJ.1]; omega)]; exact hJ.2.2.2 q hq⟩
  by_cases hl : a < sh.length
  · rw [List.getElem?_append_left hl] at hu
    have hne : a ≠ sh.length := by omega
    refine tq_at.kept (H := H) ?_ (ho _ (by rw [hJ.1]; omega))
    exact tq_at.cong (fun j => by simp [tq_z, hne]) (fun j => by simp [tq_zR, hne]) (fun _ _ _ _ => rfl) (hJ.2.2.1 a u hu)
  · rw [List.getElem?_append_right (by omega)] at hu
    have h1 : a - sh.length < 1 := (List.getElem?_eq_some_iff.mp hu).1
    have h2 : a = sh.length := by omega
    subst h2
    rw [Nat.sub_self] at hu
    cases hu
    exact hn
theorem tq_kkin {own idx c pl : Nat} (h : (own, idx, c, pl) ∈ tq_kk) : .classLink (tq_cn own) idx (tq_cn c) ∈ tq_ws := by
  have := List.all_eq_true.mp tq_kk_ok _ h
  exact tq_inW pl (of_decide_eq_true this) rfl
theorem tq_ini : ∀ c, c < 13 → lw_tbl.any (fun w => decide (w = .instantiable (tq_cn c) (tq_nf c))) = true ∧ lw_tbl.any (fun w => decide (w = .initialized (tq_cn c))) = true := by decide +kernel
theorem tq_anyin {w : Cond} (h : lw_tbl.any (fun v => decide (v = w)) = true) (hg : goodWord w = true) : w ∈ tq_ws := by
  obtain ⟨v, hv, he⟩ := List.any_eq_true.mp h
  cases of_decide_eq_true he
  exact List.mem_filter.mpr ⟨hv, hg⟩
theorem tq_cn_cl : ∀ c, c < 13 → (tq_cl[c]?).map (fun q => q.1) = some (tq_cn c) := by decide +kernel
theorem tq_default : ∀ (R : tq_R) (I : tq_I) (J : Int64) (ty : FieldType) (a j : Nat), (ty = .int ∨ ty = .boolean ∨ (ty = .long ∧ J = 0) ∨ (∃ t, ty = .array t) ∨ ∃ t, ty = .object t) → defaultValue ty = tq_fv g (tq_zR R a) (tq_z I a) J ty a j := by
  intro R I J ty a j h
  rcases h with h | h | ⟨h, h2⟩ | ⟨t, h⟩ | ⟨t, h⟩ <;> subst h
  · simp [tq_fv, tq_av, tq_z, tq_v, defaultValue]
  · simp [tq_fv, tq_av, tq_z, tq_v, defaultValue]
  · subst h2; simp [tq_fv, tq_av, tq_z, tq_v, defaultValue]
  · simp [tq_fv, tq_av, tq_zR, tq_v, tq_ov, defaultValue]
  · simp [tq_fv, tq_av, tq_zR, tq_v, tq_ov, defaultValue]
def tq_plain (ty : FieldType) : Bool := match ty with
  | .int => true
  | .boolean => true
  | .array _ => true
  | .object _ => true
  | .long => true
  | _ => false
theorem tq_plain_all : ∀ c, c < 13 → ∀ j, j < tq_nf c → tq_plain (tq_ty c j) = true := by decide +kernel
theorem EV_new (C : tq_C g μ x) {d mc0 ms0 : Nat} (hR : tq_ht x d mc0 ms0) {own idx c pl : Nat} (hown : tq_cn own = μ.1.cls) (hf : (own, idx, c, pl) ∈ tq_kk) (hc : c < 13) (hJ0 : J = 0) (hlen : sh.length < 1000) (hd : decode μ.2.1 pc = .ok (.new idx, 3)) (h1 : k + 1 ≤ mc0) (h2 : n + tq_nf c ≤ ms0)
    (kk : EV g μ x (k + 1) (n + tq_nf c) (pc + 3) lv (.ref sh.length :: st) (sh ++ [.inl c]) (tq_zR R sh.length) (tq_z I sh.length) J) : EV g μ x k n pc lv st sh R I J := by
  intro H locs ls hJ hq hl
  have hts := C.2.2.2.2.2.2.2.1
  have hw := hts _ (tq_kkin hf)
  rw [hown] at hw
  have hi := tq_ini c hc
  obtain ⟨q, hcl, hN, hT⟩ := tq_cl_lt hc
  have hcn : q.1 = tq_cn c := by
    have := tq_cn_cl c hc
    rw [hcl] at this
    exact Option.some.inj this
  have hKn := C.2.2.2.2.2.2.2.2.1.1 c q hcl
  refine W.newcK C.1 C.2.1 C.2.2.2.2.2.2.1 hw (hts _ (tq_anyin hi.1 rfl)) (hts _ (tq_anyin hi.2 rfl)) rfl hd (by rw [hR.2.2.1]; exact h1) (by rw [hR.2.2.2]; exact h2) (by rw [← hcn]; exact hKn.2.1) hJ.1 fun H1 kC hkC e1 z1 o1 => ?_
  have hb := u_born (H := H1) (tq_ty c) hts (tq_lay hcl) hKn hkC e1 (tq_tys_ok hcl)
  rw [hN] at hb
  have hat : tq_at g (tq_zR R sh.length) (tq_z I sh.length) J (.inl c) sh.length H1 := by
    refine t_OB.to hb (fun j hj => tq_default R I J _ sh.length j ?_)
    have hp := tq_plain_all c hc j hj
    unfold tq_plain at hp
    split at hp
    · rename_i h; exact Or.inl h
    · rename_i h; exact Or.inr (Or.inl h)
    · rename_i t h; exact Or.inr (Or.inr (Or.inr (Or.inl ⟨t, h⟩)))
    · rename_i t h; exact Or.inr (Or.inr (Or.inr (Or.inr ⟨t, h⟩)))
    · rename_i h; exact Or.inr (Or.inr (Or.inl ⟨h, hJ0⟩))
    · cases hp
  have hJ1 := tq_J.push (s := .inl c) hJ hlen (by rw [hJ.1]; exact z1) (by rw [hJ.1]; exact o1) hat
  have hk := kk H1 locs ls hJ1 hq hl
  have ee : (Value.ref sh.length :: st).map (tq_v g) = Value.ref (tq_gs g + sh.length) :: st.map (tq_v g) := by
    show Value.ref (tq_ad g sh.length) :: _ = _
    rw [tq_ad_lt hlen]
  rw [ee] at hk
  exact hk
theorem tq_arrw (t : Nat) (ht : t = 0 ∨ t = 1) : .arrayClass (if t = 0 then .int else .boolean) ∈ tq_ws := by
  rcases ht with rfl | rfl
  · exact tq_anyin (by decide +kernel) rfl
  · exact tq_anyin (by decide +kernel) rfl
theorem tq_newa0 {ty : FieldType} {s : State} {cA cB : ClassId} (h : s.vm.findClass ("[" ++ ty.toString) = some cA) (hA : va_RA s cB ty) (hty : ∀ C, ty ≠ .object C) : cA = cB := by
  have h2 : s.vm.findClass ("[" ++ ty.toString) = some cB := by
    cases ty with
    | object C => exact absurd rfl (hty C)
    | _ => exact hA
  exact Option.some.inj (h.symm.trans h2)
theorem EV_newi (C : tq_C g μ x) {d mc0 ms0 : Nat} (hR : tq_ht x d mc0 ms0) {v : Int32} {m : Nat} (hv : v.toInt = (m : Int)) (hm : m ≤ 100000) (hlen : sh.length < 1000) (hd : decode μ.2.1 pc = .ok (.newarray .int, 2)) (h1 : k + 1 ≤ mc0) (h2 : n + m ≤ ms0)
    (kk : EV g μ x (k + 1) (n + m) (pc + 2) lv (.ref sh.length :: st) (sh ++ [.inr (0, m)]) (tq_zR R sh.length) (tq_z I sh.length) J) : EV g μ x k n pc lv (.int v :: st) sh R I J := by
  intro H locs ls hJ hq hl
  have hts := C.2.2.2.2.2.2.2.1
  obtain ⟨e1, e2⟩ := tq_in (m := m + 1) hv (Nat.lt_succ_self m)
  refine va_newaK (atype := .int) C.1 C.2.1 (hts _ (tq_arrw 0 (Or.inl rfl))) rfl hd (rest := st.map (tq_v g)) rfl (fun h => e1 (Or.inl h)) e2 (by show m * 4 ≤ _; omega) (by rw [hR.2.2.1]; exact h1) (by rw [hR.2.2.2]; exact h2) hJ.1 fun H1 cA f1 z1 o1 hAr hNm => ?_
  have hcA : cA = tq_gA g 0 := tq_newa0 (ty := .int) hNm (C.2.2.2.2.2.2.2.2.1.2 0 (tq_gA g 0, .int) rfl).2 (fun C h => by cases h)
  have hat : tq_at g (tq_zR R sh.length) (tq_z I sh.length) J (.inr (0, m)) sh.length H1 := by
    show H1[_]? = some (arrV (tq_gA g 0) m (fun j => .int (tq_z I sh.length sh.length j)))
    rw [f1, hcA]
    simp [tq_z, defaultValue, newarray.typeOf]
  have hk := kk H1 locs ls (tq_J.push (s := .inr (0, m)) hJ hlen (by rw [hJ.1]; exact z1) (by rw [hJ.1]; exact o1) hat) hq hl
  have ee : (Value.ref sh.length :: st).map (tq_v g) = Value.ref (tq_gs g + sh.length) :: st.map (tq_v g) := by
    show Value.ref (tq_ad g sh.length) :: _ = _
    rw [tq_ad_lt hlen]
  rw [ee] at hk
  exact hk
theorem EV_newz (C : tq_C g μ x) {d mc0 ms0 : Nat} (hR : tq_ht x d mc0 ms0) {v : Int32} {m : Nat} (hv : v.toInt = (m : Int)) (hm : m ≤ 100000) (hlen : sh.length < 1000) (hd : decode μ.2.1 pc = .ok (.newarray .boolean, 2)) (h1 : k + 1 ≤ mc0) (h2 : n + m ≤ ms0)
    (kk : EV g μ x (k + 1) (n + m) (pc + 2) lv (.ref sh.length :: st) (sh ++ [.inr (1, m)]) (tq_zR R sh.length) (tq_z I sh.length) J) : EV g μ x k n pc lv (.int v :: st) sh R I J := by
  intro H locs ls hJ hq hl
  have hts := C.2.2.2.2.2.2.2.1
  obtain ⟨e1, e2⟩ := tq_in (m := m + 1) hv (Nat.lt_succ_self m)
  refine va_newaK (atype := .boolean) C.1 C.2.1 (hts _ (tq_arrw 1 (Or.inr rfl))) rfl hd (rest := st.map (tq_v g)) rfl (fun h => e1 (Or.inl h)) e2 (by show m * 1 ≤ _; omega) (by rw [hR.2.2.1]; exact h1) (by rw [hR.2.2.2]; exact h2) hJ.1 fun H1 cA f1 z1 o1 hAr hNm => ?_
  have hcA : cA = tq_gA g 1 := tq_newa0 (ty := .boolean) hNm (C.2.2.2.2.2.2.2.2.1.2 1 (tq_gA g 1, .boolean) rfl).2 (fun C h => by cases h)
  have hat : tq_at g (tq_zR R sh.length) (tq_z I sh.length) J (.inr (1, m)) sh.length H1 := by
    show H1[_]? = some (arrV (tq_gA g 1) m (fun j => .int (tq_z I sh.length sh.length j)))
    rw [f1, hcA]
    simp [tq_z, defaultValue, newarray.typeOf]
  have hk := kk H1 locs ls (tq_J.push (s := .inr (1, m)) hJ hlen (by rw [hJ.1]; exact z1) (by rw [hJ.1]; exact o1) hat) hq hl
  have ee : (Value.ref sh.length :: st).map (tq_v g) = Value.ref (tq_gs g + sh.length) :: st.map (tq_v g) := by
    show Value.ref (tq_ad g sh.length) :: _ = _
    rw [tq_ad_lt hlen]
  rw [ee] at hk
  exact hk
theorem EV_newr (C : tq_C g μ x) {d mc0 ms0 : Nat} (hR : tq_ht x d mc0 ms0) {own idx pl : Nat} (hown : tq_cn own = μ.1.cls) (hf : (own, idx, 8, pl) ∈ tq_kk) {v : Int32} {m : Nat} (hv : v.toInt = (m : Int)) (hm : m ≤ 100000) (hlen : sh.length < 1000) (hd : decode μ.2.1 pc = .ok (.anewarray idx, 3)) (h1 : k + 1 ≤ mc0) (h2 : n + m ≤ ms0)
    (kk : EV g μ x (k + 1) (n + m) (pc + 3) lv (.ref sh.length :: st) (sh ++ [.inr (2, m)]) (tq_zR R sh.length) (tq_z I sh.length) J) : EV g μ x k n pc lv (.int v :: st) sh R I J := by
  intro H locs ls hJ hq hl
  have hts := C.2.2.2.2.2.2.2.1
  have hw := hts _ (tq_kkin hf)
  rw [hown] at hw
  obtain ⟨e1, e2⟩ := tq_in (m := m + 1) hv (Nat.lt_succ_self m)
  subst e2
  refine W.anew C.1 C.2.1 C.2.2.2.2.2.2.1 hw (va_AO.use C.2.2.2.2.2.2.2.2.2.2.2.1) rfl hd (rest := st.map (tq_v g)) rfl (fun h => e1 (Or.inl h)) (by omega) (by rw [hR.2.2.1]; exact h1) (by rw [hR.2.2.2]; exact h2) fun cA kA comp f1 f2 f3 f4 => ?_
  generalize hH1 : H.push ({ cls := cA, slots := Array.replicate v.toNatClampNeg .null, vm := .none } : Cell) = H1
  have z1 : H1.size = H.size + 1 := by rw [← hH1, Array.size_push]
  have g1 : H1[H.size]? = some (arrV cA v.toNatClampNeg (fun _ => .null)) := by rw [← hH1, Array.getElem?_push_size, ← arrV_new]
  have o1 : ∀ q : Nat, q < H.size → H1[q]? = H[q]? := fun q hq => by rw [← hH1, Array.getElem?_push, if_neg (Nat.ne_of_lt hq)]
  have hcA : cA = tq_gA g 2 := by
    obtain ⟨kA', comp', k1, k2, k3, k4⟩ := (C.2.2.2.2.2.2.2.2.1.2 2 (tq_gA g 2, .object RX8) rfl).2
    exact Option.some.inj (f1.symm.trans k4)
  have hat : tq_at g (tq_zR R sh.length) (tq_z I sh.length) J (.inr (2, v.toNatClampNeg)) sh.length H1 := by
    show H1[_]? = some (arrV (tq_gA g 2) v.toNatClampNeg (fun j => va_rf ((tq_zR R sh.length sh.length j).map (tq_ad g))))
    rw [← hJ.1, g1, hcA]
    simp [tq_zR, va_rf]
  have hk := kk H1 locs ls (tq_J.push (s := .inr (2, v.toNatClampNeg)) hJ hlen z1 o1 hat) hq hl
  have ee : (Value.ref sh.length :: st).map (tq_v g) = Value.ref H.size :: st.map (tq_v g) := by
    show Value.ref (tq_ad g sh.length) :: _ = _
    rw [tq_ad_lt hlen, hJ.1]
  rw [ee] at hk
  exact hk
theorem EV_aast (C : tq_C g μ x) {a m j b : Nat} {i : Int32} (hd : decode μ.2.1 pc = .ok (.aastore, 1)) (hs : sh[a]? = some (.inr (2, m))) (hb : sh[b]? = some (.inl 8)) (hi : i.toInt = (j : Int)) (hj : j < m) (kk : EV g μ x k n (pc + 1) lv st sh (tq_uR R a j (some b)) I J) : EV g μ x k n pc lv (.ref b :: .int i :: .ref a :: st) sh R I J := by
  intro H locs ls hJ hq hl
  have ha : a < 1000 := Nat.lt_of_lt_of_le ((List.getElem?_eq_some_iff.mp hs).1) hJ.2.1
  have hb' : b < 1000 := Nat.lt_of_lt_of_le ((List.getElem?_eq_some_iff.mp hb).1) hJ.2.1
  have hc : H[tq_gs g + a]? = some (arrV (tq_gA g 2) m (fun j => va_rf ((R a j).map (tq_ad g)))) := hJ.2.2.1 a _ hs
  obtain ⟨cellV, g1, g2, g3, -⟩ : t_OB (tq_gs g + b) ((tq_gD g).1 8) (tq_nf 8) ((tq_gD g).2 8) H (fun k => tq_fv g R I J (tq_ty 8 k) b k) := hJ.2.2.1 b _ hb
  have hK := C.2.2.2.2.2.2.2.2.1
  obtain ⟨h1, h2⟩ := tq_in hi hj
  have hcls := (hK.1 8 (RX8, TX8, 3) rfl).2
  obtain ⟨kA, comp, k1, k2, k3, -⟩ := (hK.2 2 (tq_gA g 2, .object RX8) rfl).2
  have hcomp : comp = (tq_gD g).1 8 := Option.some.inj (k3.symm.trans hcls.1)
  subst hcomp
  obtain ⟨kC, hkC, -⟩ := hcls.2
  refine W.aast (a := tq_gs g + a) (v := tq_gs g + b) C.1 C.2.1 hc (fun q h => by cases h) (fun h => by cases h) k1 k2 rfl hkC ⟨fun h => h1 (Or.inl h), by rw [arrV_size, h2]; exact hj⟩ g1 (fun q h => by rw [g3] at h; cases h) (by rw [g2]; exact hkC) (by rw [g2]; exact va_assign hcls) rfl (rest := st.map (tq_v g)) (by show (Value.ref (tq_ad g b) :: .int i :: .ref (tq_ad g a) :: _) = _; rw [tq_ad_lt ha, tq_ad_lt hb']) hd fun H1 e z oq => ?_
  rw [h2] at e ⊢
  refine kk H1 _ ls (tq_J.set hJ hs z oq ?_ (fun b u hb hu h => tq_at.cong (fun j => rfl) (fun j => by simp [tq_uR, hb]) (fun _ _ _ _ => rfl) h)) (tq_locs hq) hl
  show H1[_]? = some (arrV (tq_gA g 2) m (fun q => va_rf ((tq_uR R a j (some b) a q).map (tq_ad g))))
  rw [e, arrV_store]
  congr 2
  funext q
  by_cases hq : q = j
  · subst hq; simp [updV, tq_uR, va_rf, tq_ad_lt hb']
  · simp [updV, tq_uR, hq]
/-! the long field of class 12 -/
theorem EV_putl (C : tq_C g μ x) {own idx j pl a : Nat} {v : Int64} (hown : tq_cn own = μ.1.cls) (hf : (own, idx, 12, j, pl) ∈ tq_fl) (hd : decode μ.2.1 pc = .ok (.putfield idx, 3)) (hs : sh[a]? = some (.inl 12)) (hone : ∀ b, b ≠ a → sh[b]? ≠ some (.inl 12)) (hfin : (tq_T 12 j).2.2.2 = false) (hty : tq_ty 12 j = .long) (hot : ∀ i, i ≠ j → tq_ty 12 i ≠ .long) (hshape : ∀ (b c : Nat), sh[b]? = some (.inl c) → c < 13) (hlong : ∀ (c i : Nat), c < 12 → tq_ty c i ≠ .long)
    (kk : EV g μ x k n (pc + 3) lv st sh R I v) : EV g μ x k n pc lv (.long v :: .ref a :: st) sh R I J := by
  refine EV_put0 C hown (Or.inl hf) hd hs (Or.inl hfin) (v := .long v) (R' := R) (I' := I) (J' := v) ?_ ?_ ?_ ?_ ?_ kk
  · rw [hty]; rfl
  · rw [hty]; rfl
  · rw [hty]; rfl
  · intro i hi
    have := hot i hi
    unfold tq_av
    cases h : tq_ty 12 i <;> simp_all
  · intro b u H hb hu h
    refine tq_at.cong (fun j => rfl) (fun j => rfl) ?_ h
    intro c hc i hi
    subst hc
    have h13 := hshape b c hu
    have hne : c ≠ 12 := fun e => hone b hb (by rw [hu, e])
    exact absurd hi (hlong c i (by omega))
/-! the constructor of Object -/
theorem tq_objw : .instanceMethod objectInit ∈ tq_ws ∧ .code objectInit ⟨#[0xb1]⟩ 1 none ∈ tq_ws := ⟨tq_anyin (by decide +kernel) rfl, tq_anyin (by decide +kernel) rfl⟩
theorem EV_obj (C : tq_C g μ x) {d mc0 ms0 : Nat} (hR : tq_ht x d mc0 ms0) {own idx pl a : Nat} (hown : tq_cn own = μ.1.cls) (hl0 : (own, idx, objectInit, pl) ∈ tq_ml) (hd : decode μ.2.1 pc = .ok (.invokespecial idx, 3)) (hh : 1 ≤ d) (hw : (st.map fun v => v.category).sum ≤ 8) (kk : EV g μ x k n (pc + 3) lv st sh R I J) : EV g μ x k n pc lv (.ref a :: st) sh R I J := by
  intro H locs ls hJ hq hl
  have hts := C.2.2.2.2.2.2.2.1
  have hlw := hts _ (tq_mlin hl0)
  rw [hown] at hlw
  refine W.objInit C.1 C.2.1 C.2.2.2.2.2.2.1 hlw (hts _ tq_objw.1) (hts _ tq_objw.2) rfl (by rw [C.2.2.1]; exact hl.1) (a := tq_ad g a) (rest := st.map (tq_v g)) rfl hd (by rw [hR.1]; exact hh) ?_ (kk H locs ls hJ hq hl)
  show 2 * 0 + ((st.map (tq_v g)).map fun v => v.category).sum + 12 ≤ _
  have := hR.2.1
  rw [tq_cats]
  omega
/-! Math -/
theorem tq_mthw : .static Lib.Math.max.name ∈ tq_ws ∧ .static Lib.Math.min.name ∈ tq_ws ∧ .static Lib.Math.abs.name ∈ tq_ws ∧ .initialized "java/lang/Math" ∈ tq_ws ∧ .code Lib.Math.max.name Lib.Math.max.code 2 (some .int) ∈ tq_ws ∧ .code Lib.Math.min.name Lib.Math.min.code 2 (some .int) ∈ tq_ws ∧ .code Lib.Math.abs.name Lib.Math.abs.code 1 (some .int) ∈ tq_ws :=
  ⟨tq_anyin (by decide +kernel) rfl, tq_anyin (by decide +kernel) rfl, tq_anyin (by decide +kernel) rfl, tq_anyin (by decide +kernel) rfl, tq_anyin (by decide +kernel) rfl, tq_anyin (by decide +kernel) rfl, tq_anyin (by decide +kernel) rfl⟩
theorem EV_max (C : tq_C g μ x) {d mc0 ms0 : Nat} (hR : tq_ht x d mc0 ms0) {own idx pl : Nat} {u v : Int32} (hown : tq_cn own = μ.1.cls) (hl0 : (own, idx, Lib.Math.max.name, pl) ∈ tq_ml) (hd : decode μ.2.1 pc = .ok (.invokestatic idx, 3)) (hh : 1 ≤ d) (hw : (st.map fun v => v.category).sum ≤ 8) (hc : k ≤ mc0) (hs : n ≤ ms0) (kk : EV g μ x k n (pc + 3) lv (.int (if u < v then v else u) :: st) sh R I J) : EV g μ x k n pc lv (.int v :: .int u :: st) sh R I J := by
  intro H locs ls hJ hq hl
  have hts := C.2.2.2.2.2.2.2.1
  have hlw := hts _ (tq_mlin hl0)
  rw [hown] at hlw
  have h40 := hR.2.1
  exact va_mmax C.1 C.2.1 (by rw [C.2.2.1]; exact hl.1.symm) C.2.2.2.2.2.2.1 hlw (hts _ tq_mthw.1) (hts _ tq_mthw.2.2.2.1) (hts _ tq_mthw.2.2.2.2.1) (by rw [hR.1]; exact hh) (by rw [tq_cats]; omega) (by rw [hR.2.2.1]; exact hc) (by rw [hR.2.2.2]; exact hs) hd (kk H locs ls hJ hq hl)
theorem EV_min (C : tq_C g μ x) {d mc0 ms0 : Nat} (hR : tq_ht x d mc0 ms0) {own idx pl : Nat} {u v : Int32} (hown : tq_cn own = μ.1.cls) (hl0 : (own, idx, Lib.Math.min.name, pl) ∈ tq_ml) (hd : decode μ.2.1 pc = .ok (.invokestatic idx, 3)) (hh : 1 ≤ d) (hw : (st.map fun v => v.category).sum ≤ 8) (hc : k ≤ mc0) (hs : n ≤ ms0) (kk : EV g μ x k n (pc + 3) lv (.int (if v < u then v else u) :: st) sh R I J) : EV g μ x k n pc lv (.int v :: .int u :: st) sh R I J := by
  intro H locs ls hJ hq hl
  have hts := C.2.2.2.2.2.2.2.1
  have hlw := hts _ (tq_mlin hl0)
  rw [hown] at hlw
  have h40 := hR.2.1
  exact va_mmin C.1 C.2.1 (by rw [C.2.2.1]; exact hl.1.symm) C.2.2.2.2.2.2.1 hlw (hts _ tq_mthw.2.1) (hts _ tq_mthw.2.2.2.1) (hts _ tq_mthw.2.2.2.2.2.1) (by rw [hR.1]; exact hh) (by rw [tq_cats]; omega) (by rw [hR.2.2.1]; exact hc) (by rw [hR.2.2.2]; exact hs) hd (kk H locs ls hJ hq hl)
theorem EV_abs (C : tq_C g μ x) {d mc0 ms0 : Nat} (hR : tq_ht x d mc0 ms0) {own idx pl : Nat} {u : Int32} (hown : tq_cn own = μ.1.cls) (hl0 : (own, idx, Lib.Math.abs.name, pl) ∈ tq_ml) (hd : decode μ.2.1 pc = .ok (.invokestatic idx, 3)) (hh : 1 ≤ d) (hw : (st.map fun v => v.category).sum ≤ 8) (hc : k ≤ mc0) (hs : n ≤ ms0) (kk : EV g μ x k n (pc + 3) lv (.int (if 0 ≤ u then u else 0 - u) :: st) sh R I J) : EV g μ x k n pc lv (.int u :: st) sh R I J := by
  intro H locs ls hJ hq hl
  have hts := C.2.2.2.2.2.2.2.1
  have hlw := hts _ (tq_mlin hl0)
  rw [hown] at hlw
  have h40 := hR.2.1
  exact va_mabs C.1 C.2.1 (by rw [C.2.2.1]; exact hl.1.symm) C.2.2.2.2.2.2.1 hlw (hts _ tq_mthw.2.2.1) (hts _ tq_mthw.2.2.2.1) (hts _ tq_mthw.2.2.2.2.2.2) (by rw [hR.1]; exact hh) (by rw [tq_cats]; omega) (by rw [hR.2.2.1]; exact hc) (by rw [hR.2.2.2]; exact hs) hd (kk H locs ls hJ hq hl)
end TQ5
