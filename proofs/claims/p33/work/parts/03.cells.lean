/-! A STEP OF THE PURE MACHINE IS THE MACHINE'S -/
def mj_tbl : List Cond := lw_tbl.filter goodWord
theorem mj_in {w : Cond} {p : Nat} (h : lw_tbl[p]? = some w) (hg : goodWord w = true) : w ∈ mj_tbl := List.mem_filter.mpr ⟨List.mem_of_getElem? h, hg⟩
abbrev mM_cc (M : mj_M) : ByteArray := M.2.1
abbrev mM_nl (M : mj_M) : Nat := M.2.2.1
abbrev mM_ret (M : mj_M) : Option FieldType := M.2.2.2.1
abbrev mM_own (M : mj_M) : String := mj_cn.getD M.2.2.2.2.1 ""
abbrev mM_np (M : mj_M) : Nat := M.2.2.2.2.2.1
abbrev mM_p1 (M : mj_M) : Nat := M.2.2.2.2.2.2.1
abbrev mM_p2 (M : mj_M) : Nat := M.2.2.2.2.2.2.2.1
abbrev mM_p3 (M : mj_M) : Nat := M.2.2.2.2.2.2.2.2.1
abbrev mM_p4 (M : mj_M) : Nat := M.2.2.2.2.2.2.2.2.2.1
abbrev mM_len (M : mj_M) : Nat := M.2.2.2.2.2.2.2.2.2.2.1
abbrev mM_y (M : mj_M) : MethodName := mj_ys.getD M.1 ⟨"", "", ""⟩
def mj_cd (M : mj_M) (pc : Nat) : Option mj_I := match Nat.blt pc (mM_len M) with
  | true => M.2.2.2.2.2.2.2.2.2.2.2 pc
  | false => none
def mj_ini (M : mj_M) : Bool := decide ((mM_y M).name = "<init>")
/-- what a method's rows say, checked by program -/
def mj_okM (M : mj_M) : Bool := (List.range (mM_len M)).all (fun pc => match mj_cd M pc with
  | none => true
  | some i => mj_okI (mM_own M) (mj_ini M) (mM_cc M) pc i)
theorem mj_okM_at {M : mj_M} (h : mj_okM M = true) {pc : Nat} {i : mj_I} (hi : mj_cd M pc = some i) : mj_okI (mM_own M) (mj_ini M) (mM_cc M) pc i = true := by
  have hl : pc < mM_len M := by
    unfold mj_cd at hi
    split at hi
    · rename_i h1
      exact Nat.blt_eq.mp h1
    · cases hi
  have h1 := List.all_eq_true.mp h pc (List.mem_range.mpr hl)
  rw [hi] at h1
  exact h1
def mj_okF (M : mj_M) : Bool := (List.range (mM_len M)).all (fun pc => match mj_cd M pc with
  | none => true
  | some i => mj_fitL (mM_nl M) i)
theorem mj_okF_at {M : mj_M} (h : mj_okF M = true) {pc : Nat} {i : mj_I} (hi : mj_cd M pc = some i) : mj_fitL (mM_nl M) i = true := by
  have hl : pc < mM_len M := by
    unfold mj_cd at hi
    split at hi
    · rename_i h1
      exact Nat.blt_eq.mp h1
    · cases hi
  have h1 := List.all_eq_true.mp h pc (List.mem_range.mpr hl)
  rw [hi] at h1
  exact h1
/-! the classes' fields -/
def mj_fty (T : u_T) (k : Nat) : FieldType := (parseFieldDescriptor (T k).2.2.1).getD .int
def mj_okC (q : vw_C) (ps : List Nat) : Bool := (List.range q.2.2).all (fun k => (match ps[k]? with | some p => decide (lw_tbl[p]? = some (u_lay q.1 q.2.1 k)) | none => false) && (parseFieldDescriptor (q.2.1 k).2.2.1).isSome) && (List.range q.2.2).all (fun a => (List.range q.2.2).all (fun b => a == b || decide ((q.2.1 a).2.1 ≠ (q.2.1 b).2.1)))
theorem mj_okCs : (mj_cl.zip mj_lp).all (fun z => mj_okC z.1 z.2) = true ∧ mj_cl.length = mj_lp.length := by decide +kernel
theorem mj_layGood (C : String) (T : u_T) (k : Nat) : goodWord (u_lay C T k) = true := by
  unfold u_lay
  split <;> rfl
theorem mj_cls {ci : Nat} {C : String} {T : u_T} {N : Nat} (h : mj_cl[ci]? = some (C, T, N)) : (∀ w ∈ u_ws C T N, w ∈ mj_tbl) ∧ (∀ k, k < N → parseFieldDescriptor (T k).2.2.1 = some (mj_fty T k)) ∧ (∀ a, a < N → ∀ b, b < N → a ≠ b → (T a).2.1 ≠ (T b).2.1) := by
  obtain ⟨h0, hlen⟩ := mj_okCs
  have hci : ci < mj_lp.length := by rw [← hlen]; exact (List.getElem?_eq_some_iff.mp h).1
  have hz : (mj_cl.zip mj_lp)[ci]? = some ((C, T, N), mj_lp[ci]) := List.getElem?_zip_eq_some.mpr ⟨h, List.getElem?_eq_getElem hci⟩
  have h1 := List.all_eq_true.mp h0 _ (List.mem_of_getElem? hz)
  generalize mj_lp[ci] = ps at h1
  simp only [mj_okC, Bool.and_eq_true] at h1
  obtain ⟨h2, h3⟩ := h1
  refine ⟨fun w hw => ?_, fun k hk => ?_, fun a ha b hb hab => ?_⟩
  · obtain ⟨k, hk, rfl⟩ := List.mem_map.mp hw
    have h4 := List.all_eq_true.mp h2 k hk
    simp only [Bool.and_eq_true] at h4
    obtain ⟨h5, -⟩ := h4
    split at h5
    · exact mj_in (of_decide_eq_true h5) (mj_layGood C T k)
    · cases h5
  · have h4 := List.all_eq_true.mp h2 k (List.mem_range.mpr hk)
    simp only [Bool.and_eq_true] at h4
    obtain ⟨-, h5⟩ := h4
    obtain ⟨ty, ht⟩ := Option.isSome_iff_exists.mp h5
    rw [mj_fty, ht]
    rfl
  · have h4 := List.all_eq_true.mp (List.all_eq_true.mp h3 a (List.mem_range.mpr ha)) b (List.mem_range.mpr hb)
    simp only [Bool.or_eq_true, beq_iff_eq, decide_eq_true_eq] at h4
    exact h4.resolve_left hab
/-! what a configuration's parts are on the machine -/
def mj_cv (σ : Nat → Nat) : Value → Value
  | .ref i => .ref (σ i)
  | v => v
def mj_ca (σ : Nat → Nat) (a : vp_A) : vp_A := match a.2 with
  | .inr (.inr (.inr (.inr f))) => (a.1, .inr (.inr (.inr (.inr (fun j => (f j).map σ)))))
  | _ => a
def mj_cc (σ : Nat → Nat) (cT : FieldType → ClassId) : mj_Cl → va_E
  | .inl (ty, a) => .inl (cT ty, mj_ca σ a)
  | .inr (ci, fs) => .inr (ci, fs.map (mj_cv σ))
def mj_ext (σ : Nat → Nat) (base : Nat) (s : State) (i : Nat) (c : mj_Cl) (H : Heap) : Prop := match c with
  | .inl (ty, N, .inl f) => va_T ty (σ i) N (fun j => .int (f j)) (fun q => base ≤ q) s H
  | .inr (9999, _) => True
  | _ => False
/-- a cell of which nothing is known -/
def mj_junk : mj_Cl → Bool
  | .inr (9999, _) => true
  | _ => false
def mj_at (σ : Nat → Nat) (D : va_G) (cT : FieldType → ClassId) (base : Nat) (s : State) (i : Nat) (c : mj_Cl) (H : Heap) : Prop := match Nat.ble mj_NE i with
  | true => (mj_junk c = false → va_at D mj_cl (σ i, mj_cc σ cT c) H) ∧ σ i < H.size
  | false => mj_ext σ base s i c H
def mj_R (σ : Nat → Nat) (D : va_G) (cT : FieldType → ClassId) (base : Nat) (s : State) (h : mj_H) (H : Heap) (locs : List Loc) : Prop :=
  (∀ (i : Nat) (c : mj_Cl), h[i]? = some c → mj_at σ D cT base s i c H) ∧ (∀ j, σ (h.length + j) = H.size + j) ∧ mj_NE ≤ h.length ∧ va_S (fun q => base ≤ q) s.heap H locs
abbrev mj_tys (cT : FieldType → ClassId) : List (ClassId × FieldType) := mj_tyl.map (fun t => (cT t, t))
theorem mj_tyAt {cT : FieldType → ClassId} {ty : FieldType} (h : ty ∈ mj_tyl) : ∃ k : Nat, (mj_tys cT)[k]? = some (cT ty, ty) := by
  obtain ⟨k, hk⟩ := List.getElem?_of_mem h
  exact ⟨k, by rw [List.getElem?_map, hk]; rfl⟩
def mj_E (σ : Nat → Nat) (D : va_G) (cT : FieldType → ClassId) (base : Nat) (U : State) : Prop :=
  va_K D mj_cl (mj_tys cT) U ∧ (∀ w ∈ mj_nest, va_Nw w U) ∧ (∀ (i : Nat) (q : String × String × String), mj_st[i]? = some q → va_Z q.1 q.2.1 q.2.2 (.ref (σ i)) (fun q => base ≤ q) U U.heap) ∧ base ≤ U.heap.size ∧ ((∀ i, Nat.ble mj_NE i = true → base ≤ σ i) ∧ (∀ i j, Nat.ble mj_NE i = true → Nat.ble mj_NE j = true → σ i = σ j → i = j))
def mj_has (σ : Nat → Nat) (ls : Array Slot) (nL : Nat) (L : List Value) : Prop := ls.size = nL ∧ lv_wf ls ∧ ∀ (i : Nat) (v : Value), L[i]? = some v → v ≠ mj_u → ls[i]? = some (.val (mj_cv σ v))
abbrev mj_K : Type := Program × Launch × Env × Room × State × MethodId × Array Value × List Frame × Method × Code × (State → Prop) × (Nat → Nat) × va_G × (FieldType → ClassId) × Nat
def mj_G (κ : mj_K) (g : mj_S) : Prop := match κ with
  | (p, l, e, R, s, m, args, below, meth, c, Q, σ, D, cT, base) =>
    ∀ (H : Heap) (locs : List Loc) (ls : Array Slot), mj_R σ D cT base s g.2.2.2.1 H locs → mj_has σ ls c.maxLocals g.2.1 → W p l e R s m args below meth c H locs g.2.2.2.2.1 g.2.2.2.2.2 Q (F0 m g.1 ls (g.2.2.1.map (mj_cv σ)))
def mj_X (M : mj_M) (RC RS d : Nat) (κ : mj_K) : Prop := match κ with
  | (p, _, _, R, s, m, args, _, meth, c, _, σ, D, cT, base) =>
    p.tables.exec = Jvm.exec ∧ c.code = mM_cc M ∧ c.maxLocals = mM_nl M ∧ s.vm.findClass (mM_own M) = some m.cls ∧ (∀ w ∈ mj_tbl, w.before args s = true) ∧ mj_E σ D cT base s ∧ (mj_ini M = true → meth.name = "<init>") ∧ RC ≤ R.cells ∧ RS ≤ R.slots ∧ d ≤ R.frames ∧ 40 * d ≤ R.locals
theorem mj_cat (σ : Nat → Nat) (v : Value) : (mj_cv σ v).category = v.category := by cases v <;> rfl
theorem mj_cv_u (σ : Nat → Nat) : mj_cv σ mj_u = mj_u := rfl
/-! locals -/
theorem mj_has.at {σ : Nat → Nat} {ls : Array Slot} {nL : Nat} {L : List Value} (h : mj_has σ ls nL L) {i : Nat} {v : Value} (hi : L[i]? = some v) (hv : v ≠ mj_u) : ls[i]? = some (.val (mj_cv σ v)) := h.2.2 i v hi hv
theorem mj_clr_at {L : List Value} {i j : Nat} {v : Value} (h : (mj_clr L i)[j]? = some v) (hv : v ≠ mj_u) : L[j]? = some v ∧ ¬ (j + 1 = i ∧ v.category = 2) := by
  unfold mj_clr at h
  split at h
  · exact ⟨h, fun q => by omega⟩
  · rename_i k
    split at h
    · rename_i w hw
      split at h
      · rename_i hc
        rw [List.getElem?_set] at h
        split at h
        · split at h
          · exact absurd (Option.some.inj h).symm hv
          · cases h
        · rename_i hk
          exact ⟨h, fun q => hk (by omega)⟩
      · rename_i hc
        refine ⟨h, fun q => ?_⟩
        have : j = k := by omega
        subst this
        rw [hw] at h
        exact hc (Option.some.inj h ▸ q.2)
    · rename_i hw
      refine ⟨h, fun q => ?_⟩
      have : j = k := by omega
      subst this
      rw [hw] at h
      cases h
theorem mj_store1 {σ : Nat → Nat} {ls : Array Slot} {nL : Nat} {L : List Value} (h : mj_has σ ls nL L) {i : Nat} (hi : i < nL) {v : Value} (hc : v.category = 1) : ∃ ls', storeLocals ls i (mj_cv σ v) = some ls' ∧ mj_has σ ls' nL (mj_put1 L i v) := by
  obtain ⟨hs, hw, hl⟩ := h
  have hc' : (mj_cv σ v).category = 1 := (mj_cat σ v).trans hc
  obtain ⟨ls', e, h'⟩ := lv_store1 (l := []) ⟨hs, hw, fun q hq => absurd hq List.not_mem_nil⟩ hi hc'
  refine ⟨ls', e, h'.1, h'.2.1, fun j w hj hwu => ?_⟩
  unfold mj_put1 at hj
  rw [List.getElem?_set] at hj
  split at hj
  · rename_i hij
    subst hij
    split at hj
    · have : v = w := Option.some.inj hj
      subst this
      exact h'.2.2 (i, mj_cv σ v) List.mem_cons_self
    · cases hj
  · rename_i hij
    obtain ⟨h1, h2⟩ := mj_clr_at hj hwu
    obtain ⟨l2, e2, h3⟩ := lv_store1 (l := [(j, mj_cv σ w)]) ⟨hs, hw, fun q hq => by rw [List.mem_singleton.mp hq]; exact hl j w h1 hwu⟩ hi hc'
    cases e.symm.trans e2
    refine h3.2.2 (j, mj_cv σ w) (List.mem_cons_of_mem _ (List.mem_filter.mpr ⟨List.mem_cons_self, ?_⟩))
    simp only [Bool.and_eq_true, Bool.not_eq_true', beq_eq_false_iff_ne, ne_eq, Bool.and_eq_false_iff, mj_cat]
    exact ⟨fun q => hij q.symm, by
      by_cases q : j + 1 = i
      · exact Or.inr fun z => h2 ⟨q, z⟩
      · exact Or.inl q⟩
theorem mj_store2 {σ : Nat → Nat} {ls : Array Slot} {nL : Nat} {L : List Value} (h : mj_has σ ls nL L) {i : Nat} (hi : i + 1 < nL) {v : Value} (hc : v.category = 2) : ∃ ls', storeLocals ls i (mj_cv σ v) = some ls' ∧ mj_has σ ls' nL (mj_put2 L i v) := by
  obtain ⟨hs, hw, hl⟩ := h
  have hc' : (mj_cv σ v).category = 2 := (mj_cat σ v).trans hc
  obtain ⟨ls', e, h'⟩ := lv_store2 (l := []) ⟨hs, hw, fun q hq => absurd hq List.not_mem_nil⟩ hi hc'
  refine ⟨ls', e, h'.1, h'.2.1, fun j w hj hwu => ?_⟩
  unfold mj_put2 at hj
  rw [List.getElem?_set] at hj
  split at hj
  · rename_i hij
    subst hij
    split at hj
    · have : v = w := Option.some.inj hj
      subst this
      exact h'.2.2 (i, mj_cv σ v) List.mem_cons_self
    · cases hj
  · rename_i hij
    rw [List.getElem?_set] at hj
    split at hj
    · split at hj
      · exact absurd (Option.some.inj hj).symm hwu
      · cases hj
    · rename_i hij2
      obtain ⟨h1, h2⟩ := mj_clr_at hj hwu
      obtain ⟨l2, e2, h3⟩ := lv_store2 (l := [(j, mj_cv σ w)]) ⟨hs, hw, fun q hq => by rw [List.mem_singleton.mp hq]; exact hl j w h1 hwu⟩ hi hc'
      cases e.symm.trans e2
      refine h3.2.2 (j, mj_cv σ w) (List.mem_cons_of_mem _ (List.mem_filter.mpr ⟨List.mem_cons_self, ?_⟩))
      simp only [Bool.and_eq_true, Bool.not_eq_true', beq_eq_false_iff_ne, ne_eq, Bool.and_eq_false_iff, mj_cat]
      exact ⟨fun q => hij q.symm, fun q => hij2 q.symm, by
        by_cases q : j + 1 = i
        · exact Or.inr fun z => h2 ⟨q, z⟩
        · exact Or.inl q⟩
/-! cells -/
theorem mj_ext.kept {σ : Nat → Nat} {base : Nat} {s : State} {i : Nat} {c : mj_Cl} {H H1 : Heap} (h : mj_ext σ base s i c H) (hq : ∀ a : Nat, a < H.size → ¬ base ≤ a → H1[a]? = H[a]?) : mj_ext σ base s i c H1 := by
  unfold mj_ext at h ⊢
  split at h
  · exact h.kept hq
  · trivial
  · exact h
theorem mj_at.own {σ : Nat → Nat} {D : va_G} {cT : FieldType → ClassId} {base : Nat} {s : State} {i : Nat} {c : mj_Cl} {H : Heap} (hi : Nat.ble mj_NE i = true) (hj : mj_junk c = false) (h : mj_at σ D cT base s i c H) : va_at D mj_cl (σ i, mj_cc σ cT c) H := by
  unfold mj_at at h
  rw [hi] at h
  exact h.1 hj
theorem mj_notJunk {ci : Nat} {fs : List Value} {C : vw_C} (h : mj_cl[ci]? = some C) : mj_junk (.inr (ci, fs)) = false := by
  unfold mj_junk
  split
  · rename_i e
    cases e
    have h1 := (List.getElem?_eq_some_iff.mp h).1
    exact absurd h1 (by decide +kernel)
  · rfl
theorem mj_at.mk {σ : Nat → Nat} {D : va_G} {cT : FieldType → ClassId} {base : Nat} {s : State} {i : Nat} {c : mj_Cl} {H : Heap} (hi : Nat.ble mj_NE i = true) (h : va_at D mj_cl (σ i, mj_cc σ cT c) H) : mj_at σ D cT base s i c H := by
  unfold mj_at
  rw [hi]
  exact ⟨fun _ => h, h.lt⟩
theorem mj_R.put {σ : Nat → Nat} {D : va_G} {cT : FieldType → ClassId} {base : Nat} {s : State} {h : mj_H} {H H1 : Heap} {locs : List Loc} {q k : Nat} {c : mj_Cl} (hσ : (∀ i, Nat.ble mj_NE i = true → base ≤ σ i) ∧ (∀ i j, Nat.ble mj_NE i = true → Nat.ble mj_NE j = true → σ i = σ j → i = j)) (hR : mj_R σ D cT base s h H locs) (hq : Nat.ble mj_NE q = true) (hc : va_at D mj_cl (σ q, mj_cc σ cT c) H1) (z : H1.size = H.size) (oq : ∀ x, x ≠ σ q → H1[x]? = H[x]?) : mj_R σ D cT base s (h.set q c) H1 (locs ++ [⟨σ q, k⟩]) := by
  obtain ⟨h1, h2, h3, h4⟩ := hR
  have hb : base ≤ σ q := hσ.1 q hq
  refine ⟨fun i c' hi => ?_, by rw [z, List.length_set]; exact h2, by rw [List.length_set]; exact h3, h4.put z oq hb⟩
  rw [List.getElem?_set] at hi
  split at hi
  · rename_i e
    subst e
    split at hi
    · cases hi
      exact mj_at.mk hq hc
    · cases hi
  · rename_i ne
    have h5 := h1 i c' hi
    unfold mj_at at h5 ⊢
    split
    · rename_i hb2
      rw [hb2] at h5
      refine ⟨fun hj => va_at.kept (h5.1 hj) (oq _ ?_), by rw [z]; exact h5.2⟩
      show σ i ≠ σ q
      exact fun e => ne (hσ.2 i q hb2 hq e).symm
    · rename_i hb2
      rw [hb2] at h5
      exact mj_ext.kept h5 fun a _ ha => oq a fun e => ha (e ▸ hb)
theorem mj_R.push {σ : Nat → Nat} {D : va_G} {cT : FieldType → ClassId} {base : Nat} {s : State} {h : mj_H} {H H1 : Heap} {locs : List Loc} {c : mj_Cl} (hσ : (∀ i, Nat.ble mj_NE i = true → base ≤ σ i) ∧ (∀ i j, Nat.ble mj_NE i = true → Nat.ble mj_NE j = true → σ i = σ j → i = j)) (hR : mj_R σ D cT base s h H locs) (hc : va_at D mj_cl (H.size, mj_cc σ cT c) H1) (z : H1.size = H.size + 1) (oq : ∀ x, x < H.size → H1[x]? = H[x]?) : mj_R σ D cT base s (h ++ [c]) H1 locs ∧ σ h.length = H.size := by
  obtain ⟨h1, h2, h3, h4⟩ := hR
  have hn : Nat.ble mj_NE h.length = true := Nat.ble_eq_true_of_le h3
  have hs : σ h.length = H.size := h2 0
  refine ⟨⟨fun i c' hi => ?_, fun j => by rw [z, List.length_append, List.length_singleton, Nat.add_assoc, Nat.add_assoc]; exact h2 (1 + j), by rw [List.length_append]; omega, ⟨Nat.le_trans h4.1 (by omega), fun x g1 g2 => (oq x (Nat.lt_of_lt_of_le g1 h4.1)).trans (h4.2.1 x g1 g2), h4.2.2⟩⟩, hs⟩
  by_cases hl : i < h.length
  · rw [List.getElem?_append_left hl] at hi
    have h5 := h1 i c' hi
    unfold mj_at at h5 ⊢
    split
    · rename_i hb2
      rw [hb2] at h5
      exact ⟨fun hj => va_at.kept (h5.1 hj) (oq _ h5.2), by rw [z]; exact Nat.lt_succ_of_lt h5.2⟩
    · rename_i hb2
      rw [hb2] at h5
      exact mj_ext.kept h5 fun a ha _ => oq a ha
  · rw [List.getElem?_append_right (by omega)] at hi
    have hz : i - h.length < 1 := (List.getElem?_eq_some_iff.mp hi).1
    have e : i = h.length := by omega
    subst e
    rw [Nat.sub_self] at hi
    cases hi
    exact mj_at.mk hn (by rw [hs]; exact hc)
