/-! CONTRACTS: what a method of the pure machine answers, and how it is called -/
def mj_wsM (M : mj_M) : List Cond := Cond.code (mM_y M) (mM_cc M) (mM_nl M) (mM_ret M) :: mj_tbl
abbrev mj_rm (d mc ms : Nat) : Room := { frames := d, cells := mc, slots := ms, locals := 40 * d }
def mj_R0 (σ : Nat → Nat) (D : va_G) (cT : FieldType → ClassId) (base : Nat) (s : State) (h : mj_H) (H : Heap) : Prop :=
  (∀ (i : Nat) (c : mj_Cl), h[i]? = some c → mj_at σ D cT base s i c H) ∧ (∀ j, σ (h.length + j) = H.size + j) ∧ mj_NE ≤ h.length
def mj_Pc (σ : Nat → Nat) (D : va_G) (cT : FieldType → ClassId) (base : Nat) (as : List Value) (h : mj_H) : Array Value → State → Prop := fun v U => v = (as.map (mj_cv σ)).toArray ∧ mj_E σ D cT base U ∧ mj_R0 σ D cT base U h U.heap
def mj_Qc (σ : Nat → Nat) (D : va_G) (cT : FieldType → ClassId) (base : Nat) (r : Option Value) (h' : mj_H) : Array Value → State → Outcome → State → Prop := fun _ st o t => o = .returned (r.map (mj_cv σ)) ∧ mj_R0 σ D cT base t h' t.heap ∧ va_F (fun q => base ≤ q) st t
/-- from the cells h the method M, given 'as', answers r and leaves the cells h'; at most mc cells of ms slots are new; calls stand at most d deep -/
def mj_Ct (M : mj_M) (as : List Value) (h : mj_H) (r : Option Value) (h' : mj_H) (mc ms d : Nat) : Prop :=
  ∀ (l : Launch) (σ : Nat → Nat) (D : va_G) (cT : FieldType → ClassId) (base : Nat), Met l (mM_y M) (mj_wsM M) (mj_rm d mc ms) (mj_Pc σ D cT base as h) (mj_Qc σ D cT base r h') mc ms (fun q => base ≤ q)
def mj_okY (M : mj_M) : Bool := decide (lw_tbl[mM_p1 M]? = some (Cond.code (mM_y M) (mM_cc M) (mM_nl M) (mM_ret M))) && (decide (lw_tbl[mM_p2 M]? = some (Cond.instanceMethod (mM_y M))) || decide (lw_tbl[mM_p2 M]? = some (Cond.static (mM_y M)))) && decide (lw_tbl[mM_p4 M]? = some (Cond.initialized (mM_y M).cls)) && decide ((mM_y M).cls = mM_own M) && plainFor (mM_y M) && decide ((mM_y M).cls ≠ "java/lang/invoke/MethodHandle") && decide ((mM_y M).cls ≠ "java/lang/invoke/VarHandle") && decide ((parseMethodDescriptor (mM_y M).desc).map (fun d => d.parameters.length) = some (mM_np M)) && decide (mM_nl M ≤ 21)
def mj_okK (M : mj_M) : Bool := (List.range (mM_len M)).all (fun pc => match mj_cd M pc with
  | none => true
  | some (ins, _, a, b, w, _) => match ins with
    | .invokevirtual idx => decide (lw_tbl[w]? = some (Cond.methodLink (mM_own M) idx (mj_ys.getD a ⟨"", "", ""⟩))) || Nat.ble 1000 a
    | .invokestatic idx => (match a with
      | 1001 => decide (lw_tbl[w]? = some (Cond.methodLink (mM_own M) idx arraycopyName))
      | _ => decide (lw_tbl[w]? = some (Cond.methodLink (mM_own M) idx (mj_ys.getD a ⟨"", "", ""⟩))) || Nat.ble 1000 a)
    | .invokespecial idx => (match a, b with
      | 1000, _ => decide (lw_tbl[w]? = some (Cond.methodLink (mM_own M) idx objectInit))
      | _, 0 => decide (lw_tbl[w]? = some (Cond.methodLink (mM_own M) idx (mj_ys.getD a ⟨"", "", ""⟩))) || Nat.ble 1000 a
      | _, _ => mj_nest.any (fun z => match z with | .methodLinkNest o i y _ => decide (o = mM_own M ∧ i = idx ∧ y = mj_ys.getD a ⟨"", "", ""⟩) | _ => false))
    | _ => true)
def mj_okA (M : mj_M) : Bool := mj_okM M && mj_okF M && mj_okY M && mj_okK M
theorem mj_okA_M {M : mj_M} (h : mj_okA M = true) : mj_okM M = true := by
  simp only [mj_okA, Bool.and_eq_true] at h
  exact h.1.1.1
theorem mj_okA_F {M : mj_M} (h : mj_okA M = true) : mj_okF M = true := by
  simp only [mj_okA, Bool.and_eq_true] at h
  exact h.1.1.2
theorem mj_okA_Y {M : mj_M} (h : mj_okA M = true) : Cond.code (mM_y M) (mM_cc M) (mM_nl M) (mM_ret M) ∈ mj_tbl ∧ (lw_tbl[mM_p2 M]? = some (Cond.instanceMethod (mM_y M)) ∨ lw_tbl[mM_p2 M]? = some (Cond.static (mM_y M))) ∧ Cond.initialized (mM_y M).cls ∈ mj_tbl ∧ (mM_y M).cls = mM_own M ∧ plainFor (mM_y M) = true ∧ (mM_y M).cls ≠ "java/lang/invoke/MethodHandle" ∧ (mM_y M).cls ≠ "java/lang/invoke/VarHandle" ∧ (parseMethodDescriptor (mM_y M).desc).map (fun d => d.parameters.length) = some (mM_np M) ∧ mM_nl M ≤ 21 := by
  simp only [mj_okA, mj_okY, Bool.and_eq_true, Bool.or_eq_true, decide_eq_true_eq] at h
  obtain ⟨⟨⟨-, -⟩, ⟨⟨⟨⟨⟨⟨⟨⟨h1, h2⟩, h3⟩, h4⟩, h5⟩, h6⟩, h7⟩, h8⟩, h9⟩⟩, -⟩ := h
  exact ⟨mj_in h1 rfl, h2, mj_in h3 rfl, h4, h5, h6, h7, h8, h9⟩
/-- the row at pc, of a call -/
def mj_kat (M : mj_M) (pc : Nat) (i : mj_I) : Bool := match i with
  | (ins, _, a, b, w, _) => match ins with
    | .invokevirtual idx => decide (lw_tbl[w]? = some (Cond.methodLink (mM_own M) idx (mj_ys.getD a ⟨"", "", ""⟩))) || Nat.ble 1000 a
    | .invokestatic idx => (match a with
      | 1001 => decide (lw_tbl[w]? = some (Cond.methodLink (mM_own M) idx arraycopyName))
      | _ => decide (lw_tbl[w]? = some (Cond.methodLink (mM_own M) idx (mj_ys.getD a ⟨"", "", ""⟩))) || Nat.ble 1000 a)
    | .invokespecial idx => (match a, b with
      | 1000, _ => decide (lw_tbl[w]? = some (Cond.methodLink (mM_own M) idx objectInit))
      | _, 0 => decide (lw_tbl[w]? = some (Cond.methodLink (mM_own M) idx (mj_ys.getD a ⟨"", "", ""⟩))) || Nat.ble 1000 a
      | _, _ => mj_nest.any (fun z => match z with | .methodLinkNest o i y _ => decide (o = mM_own M ∧ i = idx ∧ y = mj_ys.getD a ⟨"", "", ""⟩) | _ => false))
    | _ => true
theorem mj_okA_K {M : mj_M} (h : mj_okA M = true) {pc : Nat} {i : mj_I} (hi : mj_cd M pc = some i) : mj_kat M pc i = true := by
  have hl : pc < mM_len M := by
    unfold mj_cd at hi
    split at hi
    · rename_i h1
      exact Nat.blt_eq.mp h1
    · cases hi
  simp only [mj_okA, Bool.and_eq_true] at h
  have h1 := List.all_eq_true.mp h.2 pc (List.mem_range.mpr hl)
  rw [hi] at h1
  exact h1
theorem mj_dec {M : mj_M} (h : mj_okA M = true) {pc : Nat} {i : mj_I} (hi : mj_cd M pc = some i) : decode (mM_cc M) pc = .ok (i.1, i.2.1) := by
  have h1 := mj_okM_at (mj_okA_M h) hi
  obtain ⟨ins, len, a, b, w, v⟩ := i
  simp only [mj_okI, Bool.and_eq_true, decide_eq_true_eq] at h1
  exact h1.1
theorem mj_good {ws : List Cond} (h : ∀ w ∈ ws, w ∈ mj_tbl) : GoodIn mj_tbl ws := fun w hw => ⟨h w hw, good_of_word (List.mem_filter.mp (h w hw)).2⟩
theorem mj_goodM {M : mj_M} (h : mj_okA M = true) : ∀ w ∈ mj_wsM M, w ∈ mj_tbl := fun w hw => (List.mem_cons.mp hw).elim (fun e => e ▸ (mj_okA_Y h).1) id
/-! moving what is known -/
theorem mj_warmN {w : Cond} (hw : w ∈ mj_nest) {s U : State} (hW : s.WarmedH U.vm) (h : va_Nw w s) : va_Nw w U := by
  have hk : mj_nest.all (fun z => match z with | .methodLinkNest _ _ _ _ => true | .fieldLinkNest _ _ _ _ _ _ => true | .castable _ _ => true | _ => false) = true := by decide +kernel
  have h1 := List.all_eq_true.mp hk w hw
  split at h1
  · exact va_Nw.warmM hW h
  · exact va_Nw.warmF hW h
  · exact va_Nw.warmC hW h
  · cases h1
theorem mj_sameN {w : Cond} (hw : w ∈ mj_nest) {s U : State} (hV : s.vm = U.vm) (h : va_Nw w s) : va_Nw w U := by
  have hk : mj_nest.all (fun z => match z with | .methodLinkNest _ _ _ _ => true | .fieldLinkNest _ _ _ _ _ _ => true | .castable _ _ => true | _ => false) = true := by decide +kernel
  have h1 := List.all_eq_true.mp hk w hw
  split at h1
  · exact va_Nw.same rfl hV h
  · exact va_Nw.same rfl hV h
  · exact va_Nw.same rfl hV h
  · cases h1
section MV
variable {σ : Nat → Nat} {D : va_G} {cT : FieldType → ClassId} {base : Nat} {s U : State} {h : mj_H} {H : Heap} {locs : List Loc}
theorem mj_ext.moved {i : Nat} {c : mj_Cl} (hvm : s.vm.Alike U.vm) (hc : mj_ext σ base s i c H) : mj_ext σ base U i c H := by
  unfold mj_ext at hc ⊢
  split at hc
  · exact hc.moved hvm
  · trivial
  · exact hc
theorem mj_at.moved {i : Nat} {c : mj_Cl} (hvm : s.vm.Alike U.vm) (hc : mj_at σ D cT base s i c H) : mj_at σ D cT base U i c H := by
  unfold mj_at at hc ⊢
  split
  · rename_i hb
    rw [hb] at hc
    exact hc
  · rename_i hb
    rw [hb] at hc
    exact mj_ext.moved hvm hc
theorem mj_R0.moved (hvm : s.vm.Alike U.vm) (hR : mj_R0 σ D cT base s h H) : mj_R0 σ D cT base U h H := ⟨fun i c hi => (hR.1 i c hi).moved hvm, hR.2⟩
theorem mj_E.call (hE : mj_E σ D cT base s) (hS : va_S (fun q => base ≤ q) s.heap H locs) (hU : U.heap = H) (hW : s.WarmedH U.vm) : mj_E σ D cT base U := by
  obtain ⟨h1, h2, h3, h4, h5⟩ := hE
  refine ⟨va_K.moved hW.alike h1, fun w hw => mj_warmN hw hW (h2 w hw), fun i q hq => ?_, by rw [hU]; exact Nat.le_trans h4 hS.1, h5⟩
  rw [hU]
  exact ((h3 i q hq).moved hW.alike).kept fun a ha hb => hS.2.1 a ha hb
theorem mj_E.calling {g : JFrame} {mk : MethodId} {a : Array Value} (hE : mj_E σ D cT base U) : mj_E σ D cT base (U.calling g mk a) := by
  obtain ⟨h1, h2, h3, h4, h5⟩ := hE
  have hv : U.vm.Alike (U.calling g mk a).vm := Vm.Alike.refl U.vm
  exact ⟨va_K.moved hv h1, fun w hw => mj_sameN (s := U) (U := U.calling g mk a) hw rfl (h2 w hw), fun i q hq => (h3 i q hq).moved hv, h4, h5⟩
theorem mj_Pc.blind {as : List Value} : FrameBlind (mj_Pc σ D cT base as h) := fun a U g mk ⟨h1, h2, h3⟩ => ⟨h1, h2.calling, h3.moved (U := U.calling g mk a) (Vm.Alike.refl U.vm)⟩
end MV
/-! a method from its entry -/
def mj_entA : List Value → List Value
  | [] => []
  | v :: r => if v.category = 2 then v :: mj_u :: mj_entA r else v :: mj_entA r
def mj_ent (as : List Value) (n : Nat) : List Value := mj_entA as ++ List.replicate (n - (mj_entA as).length) mj_u
theorem mj_entA_in {σ : Nat → Nat} : ∀ (as : List Value) (k i : Nat) (v : Value), (mj_entA as)[i]? = some v → v ≠ mj_u → (k + i, mj_cv σ v) ∈ lv_args k (as.map (mj_cv σ)) := by
  intro as
  induction as with
  | nil => intro k i v h; simp [mj_entA] at h
  | cons w r ih =>
    intro k i v h hv
    simp only [List.map_cons, lv_args, mj_cat]
    unfold mj_entA at h
    by_cases hc : w.category = 2
    · rw [if_pos hc] at h ⊢
      match i, h with
      | 0, h => cases h; exact List.mem_cons_self
      | 1, h => exact absurd (Option.some.inj h).symm hv
      | i + 2, h =>
        have := ih (k + 2) i v h hv
        rw [show k + (i + 2) = k + 2 + i by omega]
        exact List.mem_cons_of_mem _ this
    · rw [if_neg hc] at h ⊢
      match i, h with
      | 0, h => cases h; exact List.mem_cons_self
      | i + 1, h =>
        have := ih (k + 1) i v h hv
        rw [show k + (i + 1) = k + 1 + i by omega]
        exact List.mem_cons_of_mem _ this
theorem lg_sl_cons (w : Value) (r : List Value) : lg_sl (w :: r) = (if w.category = 2 then [.val w, .second] else [.val w]) ++ lg_sl r := by simp [lg_sl]
theorem mj_entA_len : ∀ (as : List Value), (mj_entA as).length = (lg_sl as).length := by
  intro as
  induction as with
  | nil => rfl
  | cons w r ih =>
    rw [lg_sl_cons, List.length_append, ← ih]
    simp only [mj_entA]
    by_cases hc : w.category = 2
    · rw [if_pos hc, if_pos hc]
      simp only [List.length_cons, List.length_nil]
      omega
    · rw [if_neg hc, if_neg hc]
      simp only [List.length_cons, List.length_nil]
      omega
theorem lg_sl_cv {σ : Nat → Nat} : ∀ (as : List Value), (lg_sl (as.map (mj_cv σ))).length = (lg_sl as).length := by
  intro as
  rw [← mj_entA_len, ← mj_entA_len]
  induction as with
  | nil => rfl
  | cons w r ih =>
    simp only [List.map_cons, mj_entA, mj_cat]
    by_cases hc : w.category = 2
    · rw [if_pos hc, if_pos hc]; simp only [List.length_cons, ih]
    · rw [if_neg hc, if_neg hc]; simp only [List.length_cons, ih]
/-- 'Met.ofW' for a class some of whose methods are run otherwise (java/lang/Math): by the method's own name -/
theorem mw_ofW {l : Launch} {y : MethodName} {ws ws' : List Cond} {rm : Room} {Pc : Array Value → State → Prop} {Qc : Array Value → State → Outcome → State → Prop} {mc ms : Nat} {free : Addr → Prop} {cc : ByteArray} {maxL : Nat} {ret : Option FieldType}
    (hy : plainFor y = true) (hw : ws = Cond.code y cc maxL ret :: ws')
    (body : ∀ p e s m args below meth c s₁, BodyLoose p l y (headSpec ws rm) cc maxL ret e s m args below meth c s₁ → c.maxLocals = maxL → Pc args s →
      W p l e (headSpec ws rm).room s m args below meth c s.heap [] 0 0 (MQ below Qc args s mc ms free) (entryFrame m args maxL)) : Met l y ws rm Pc Qc mc ms free := by
  refine MetFree.of_bodyRF (code := cc) (maxLocals := maxL) (ret := ret) hy ?_ ?_
  · intro args s m h hn
    obtain ⟨meth, c, h1, h2, h3, h4, h5, h6, -, -⟩ := Cond.code_spec hn (atoms_spec (ws := ws) h _ (by rw [hw]; exact List.mem_cons_self))
    exact ⟨meth, c, h1, h2, h3, h4, h5, h6⟩
  · intro p e s m args below meth c s₁ B hml hP _ hst
    have hh0 : s₁.heap = s.heap := by rw [B.state]; rfl
    obtain ⟨t, a1, o, b1, b2, b3⟩ := body p e s m args below meth c s₁ B hml hP s₁ hh0 (Stand.of_body B)
    exact ⟨t, o, hst.trans a1, b1, b2, ⟨b3.1, b3.2⟩⟩
/-- which row returns r -/
def mj_isR (ret : Option FieldType) (r : Option Value) (i : mj_I) : Prop := match i.1, r, ret with
  | .ireturn, some (.int _), some .int => i.2.1 = 1
  | .ireturn, some (.int x), some .boolean => i.2.1 = 1 ∧ narrow .boolean (.int x) = .int x
  | .lreturn, some (.long _), some .long => i.2.1 = 1
  | .dreturn, some (.double _), some .double => i.2.1 = 1
  | .areturn, some (.ref _), some (.object _) => i.2.1 = 1
  | .areturn, some (.ref _), some (.array _) => i.2.1 = 1
  | .return_, none, none => i.2.1 = 1
  | _, _, _ => False
def mj_Fin (M : mj_M) (κ : mj_K) (r : Option Value) (h' : mj_H) (mc ms : Nat) : Prop := ∀ (pc : Nat) (L : List Value) (cc cs : Nat) (i : mj_I), mj_cd M pc = some i → mj_isR (mM_ret M) r i → cc ≤ mc → cs ≤ ms → mj_G κ (pc, L, r.toList, h', cc, cs)
theorem mj_intro {M : mj_M} {as : List Value} {h : mj_H} {r : Option Value} {h' : mj_H} {mc ms d : Nat} (hA : mj_okA M = true) (hl : Nat.ble (lg_sl as).length (mM_nl M) = true) (body : ∀ κ : mj_K, mj_X M mc ms d κ → mj_Fin M κ r h' mc ms → mj_G κ (0, mj_ent as (mM_nl M), [], h, 0, 0)) : mj_Ct M as h r h' mc ms d := by
  obtain ⟨hcode, -, hinit, hown', hpl, -, -, -, -⟩ := mj_okA_Y hA
  intro l σ D cT base
  refine mw_ofW (cc := mM_cc M) (maxL := mM_nl M) (ret := mM_ret M) hpl rfl ?_
  intro p e s m args below meth c s₁ B hml hv
  obtain ⟨rfl, hE, hR⟩ := hv
  have hts0 := atoms_spec (ws := mj_wsM M) B.pre
  have hts : ∀ w ∈ mj_tbl, w.before _ s = true := fun w hw => hts0 w (List.mem_cons_of_mem _ hw)
  have hown : s.vm.findClass (mM_own M) = some m.cls := hown' ▸ findClass_of_methodNamed B.named
  have hlocks := B.notSynchronized
  have hin : mj_ini M = true → meth.name = "<init>" := fun h => ((name_of_methodNamed B.named B.method).1).trans (of_decide_eq_true h)
  have hlen : (lg_sl (as.map (mj_cv σ))).length ≤ mM_nl M := by rw [lg_sl_cv]; exact Nat.le_of_ble_eq_true hl
  have hle := lv_entry (as.map (mj_cv σ)) (n := mM_nl M) hlen
  rw [lg_entry_eq]
  generalize (lg_sl (as.map (mj_cv σ)) ++ List.replicate (mM_nl M - (lg_sl (as.map (mj_cv σ))).length) Slot.unset).toArray = ls at hle ⊢
  have hX : mj_X M mc ms d (p, l, e, (headSpec (mj_wsM M) (mj_rm d mc ms)).room, s, m, (as.map (mj_cv σ)).toArray, below, meth, c, MQ below (mj_Qc σ D cT base r h') (as.map (mj_cv σ)).toArray s mc ms (fun q => base ≤ q), σ, D, cT, base) := ⟨B.exec, B.bytes, hml, hown, hts, hE, hin, Nat.le_refl _, Nat.le_refl _, Nat.le_refl _, Nat.le_refl _⟩
  have hF : mj_Fin M (p, l, e, (headSpec (mj_wsM M) (mj_rm d mc ms)).room, s, m, (as.map (mj_cv σ)).toArray, below, meth, c, MQ below (mj_Qc σ D cT base r h') (as.map (mj_cv σ)).toArray s mc ms (fun q => base ≤ q), σ, D, cT, base) r h' mc ms := by
    intro pc L cc cs i hi hr hc1 hc2 H locs ls' hR' hl'
    have hdg := mj_dec hA hi
    obtain ⟨ins, len, a, b, w, v⟩ := i
    refine W.widen hc1 hc2 ?_
    have hq : ∀ t : State, t.heap = H → s.WarmedH t.vm → mj_Qc σ D cT base r h' (as.map (mj_cv σ)).toArray s (.returned (r.map (mj_cv σ))) t := fun t ht hW => ⟨rfl, by rw [ht]; exact mj_R0.moved (s := s) hW.alike ⟨hR'.1, hR'.2.1, hR'.2.2.1⟩, hR'.2.2.2.F ht⟩
    have hf : ∀ q ∈ locs, base ≤ q.base := hR'.2.2.2.2.2
    unfold mj_isR at hr
    have hret := B.returns
    dsimp only at hr hdg hq ⊢
    split at hr
    · rename_i e3
      rw [e3] at hret
      rw [hr] at hdg
      exact W.iret B.exec B.bytes hret hq hf hdg
    · rename_i e3
      rw [e3] at hret
      rw [hr.1] at hdg
      exact W.zret B.exec B.bytes hret hr.2 hq hf hdg
    · rename_i e3
      rw [e3] at hret
      rw [hr] at hdg
      exact W.lret B.exec B.bytes hret hq hf hdg
    · rename_i e3
      rw [e3] at hret
      rw [hr] at hdg
      exact W.dret B.exec B.bytes hret hq hf hdg
    · rename_i e3
      rw [e3] at hret
      rw [hr] at hdg
      exact W.aret B.exec B.bytes hret (Or.inl ⟨_, rfl⟩) (Or.inr ⟨_, rfl⟩) hq hf hdg
    · rename_i e3
      rw [e3] at hret
      rw [hr] at hdg
      exact W.aret B.exec B.bytes hret (Or.inr ⟨_, rfl⟩) (Or.inr ⟨_, rfl⟩) hq hf hdg
    · rename_i e3
      rw [e3] at hret
      rw [hr] at hdg
      exact W.vret B.exec B.bytes hret hq hf hdg
    · exact absurd hr id
  refine body _ hX hF s.heap [] ls ⟨hR.1, hR.2.1, hR.2.2, va_S.rf⟩ ⟨by rw [hml]; exact hle.1, hle.2.1, fun i v hi hv => ?_⟩
  have h2 : (mj_entA as)[i]? = some v := by
    unfold mj_ent at hi
    by_cases hlt : i < (mj_entA as).length
    · rw [List.getElem?_append_left hlt] at hi
      exact hi
    · rw [List.getElem?_append_right (by omega)] at hi
      exact absurd (List.eq_of_mem_replicate (List.mem_of_getElem? hi)) hv
  have h3 := mj_entA_in (σ := σ) as 0 i v h2 hv
  rw [Nat.zero_add] at h3
  exact hle.2.2 (i, mj_cv σ v) h3
/-! runs and calls, as they are used -/
theorem g_to {M : mj_M} {κ : mj_K} {RC RS dd : Nat} (hX : mj_X M RC RS dd κ) (hA : mj_okA M = true) (stop : Nat) (ds : List Bool) {g g' : mj_S} {P : Prop} (h : mj_run (mj_cd M) RC RS stop 200 ds g = some (P, g')) (hP : P) (k : mj_G κ g') : mj_G κ g := mj_simR hX (mj_okA_M hA) (mj_okA_F hA) 200 ds g g' P h hP k
theorem g_ret {M : mj_M} {κ : mj_K} {r : Option Value} {h' : mj_H} {mc ms : Nat} (hF : mj_Fin M κ r h' mc ms) {pc : Nat} {L st : List Value} {cc cs : Nat} {i : mj_I} (hi : mj_cd M pc = some i) (hr : mj_isR (mM_ret M) r i) (hs : st = r.toList) (hc : Nat.ble cc mc = true) (hs2 : Nat.ble cs ms = true) : mj_G κ (pc, L, st, h', cc, cs) := by
  subst hs
  exact hF pc L cc cs i hi hr (Nat.le_of_ble_eq_true hc) (Nat.le_of_ble_eq_true hs2)
section CL
variable {p : Program} {l : Launch} {e : Env} {R : Room} {s : State} {m : MethodId} {args : Array Value} {below : List Frame} {meth : Method} {c : Code} {H : Heap} {locs : List Loc} {cells slots : Nat} {Q : State → Prop}
theorem mw_after {σ : Nat → Nat} {D : va_G} {cT : FieldType → ClassId} {base : Nat} {h : mj_H} {r : Option Value} {h' : mj_H} {mc ms : Nat} {a : Array Value} {pc : Nat} {ls : Array Slot} {st0 rest : List Value} (hR : mj_R σ D cT base s h H locs)
    (hr : va_Run p l e R s m args below meth c H locs cells slots mc ms (F0 m pc ls st0) rest (mj_Qc σ D cT base r h' a) (fun q => base ≤ q))
    (k : ∀ (H1 : Heap) (locs1 : List Loc), mj_R σ D cT base s h' H1 locs1 → W p l e R s m args below meth c H1 locs1 (cells + mc) (slots + ms) Q (F0 m (pc + 3) ls ((r.map (mj_cv σ)).toList ++ rest))) : W p l e R s m args below meth c H locs cells slots Q (F0 m pc ls st0) := by
  intro T hT X
  obtain ⟨v, st₀, t, T', L, h0, X', hL, e1, e2, ⟨hv, hb, hz, hk⟩, st⟩ := hr T hT X
  cases hv
  rw [h0] at hz hk
  have hal : t.vm.Alike s.vm := by rw [← e2]; exact X'.warmed.alike.symm
  obtain ⟨t2, a1, b1⟩ := k T'.heap (locs ++ L) ⟨fun i c hi => by rw [e1]; exact (hb.1 i c hi).moved hal, by rw [e1]; exact hb.2.1, hb.2.2, ⟨Nat.le_trans hR.2.2.2.1 (by rw [e1]; exact hz), fun q h1 h2 => by
      rw [e1, hk q (Nat.lt_of_lt_of_le h1 hR.2.2.2.1) h2]
      exact hR.2.2.2.2.1 q h1 h2, fun q hq => by
      rcases List.mem_append.mp hq with h | h
      · exact hR.2.2.2.2.2 q h
      · exact hL q h⟩⟩ T' rfl X'
  exact ⟨t2, st t2 a1, b1⟩
end CL
def mj_isV (i : Option mj_I) (M : mj_M) : Bool := match i with
  | some (.invokevirtual _, 3, a, _, _, _) => Nat.beq a M.1 && Nat.blt a 1000
  | _ => false
def mj_isS (i : Option mj_I) (M : mj_M) : Bool := match i with
  | some (.invokestatic _, 3, a, _, _, _) => Nat.beq a M.1 && Nat.blt a 1000
  | _ => false
def mj_isI (i : Option mj_I) (M : mj_M) : Bool := match i with
  | some (.invokespecial _, 3, a, _, _, _) => Nat.beq a M.1 && Nat.blt a 1000
  | _ => false
def mj_rcv (h : mj_H) (q : Nat) (M : mj_M) : Bool := match h[q]?, Nat.ble mj_NE q, mj_cl[M.2.2.2.2.1]? with
  | some (.inr (ci, _)), true, some (C, _, _) => Nat.beq ci M.2.2.2.2.1 && decide (C = mM_own M)
  | _, _, _ => false
theorem mj_catS {σ : Nat → Nat} (rest : List Value) : ((rest.map (mj_cv σ)).map fun v => v.category).sum = (rest.map fun v => v.category).sum := by
  induction rest with
  | nil => rfl
  | cons v r ih => simp only [List.map_cons, List.sum_cons, ih, mj_cat]
theorem g_callV {M M' : mj_M} {κ : mj_K} {RC RS dd : Nat} (hX : mj_X M RC RS dd κ) (hA : mj_okA M = true) (hA' : mj_okA M' = true) {pc q : Nat} {L st As rest : List Value} {h h' : mj_H} {cc cs mc ms d : Nat} {r : Option Value} (hC : mj_Ct M' (.ref q :: As) h r h' mc ms d) (hi : mj_isV (mj_cd M pc) M' = true) (hsel : lw_tbl[mM_p3 M']? = some (Cond.selects (mM_y M').cls (mM_y M') (mM_y M')) ∧ lw_tbl[mM_p2 M']? = some (Cond.instanceMethod (mM_y M'))) (hst : st = As.reverse ++ .ref q :: rest) (hn : As.length = mM_np M') (hrc : mj_rcv h q M' = true) (hw : Nat.ble ((rest.map fun v => v.category).sum) 8 = true) (hroom : Nat.ble (cc + mc) RC = true ∧ Nat.ble (cs + ms) RS = true ∧ Nat.blt d dd = true) (k : mj_G κ (pc + 3, L, r.toList ++ rest, h', cc + mc, cs + ms)) : mj_G κ (pc, L, st, h, cc, cs) := by
  subst hst
  obtain ⟨hcode', -, hinit', hown', hpl', hm1, hm2, hnp, hnl⟩ := mj_okA_Y hA'
  obtain ⟨p, l, e, R, s, m, args, below, meth, c, Q, σ, D, cT, base⟩ := κ
  obtain ⟨hx, hb, hml, hown, hts, hE, hini, hRC, hRS, hRd, hRl⟩ := hX
  cases hcd : mj_cd M pc with
  | none => rw [hcd] at hi; cases hi
  | some i =>
    rw [hcd] at hi
    have hkat := mj_okA_K hA hcd
    have hdg := mj_dec hA hcd
    obtain ⟨ins, len, a, b, w, v⟩ := i
    unfold mj_isV at hi
    split at hi
    · rename_i idx a' b' w' v' heq
      cases heq
      simp only [Bool.and_eq_true] at hi
      have ha : a = M'.1 := Nat.eq_of_beq_eq_true hi.1
      have ha2 : a < 1000 := Nat.blt_eq.mp hi.2
      have hlink : lw_tbl[w]? = some (Cond.methodLink (mM_own M) idx (mM_y M')) := by
        simp only [mj_kat, Bool.or_eq_true, decide_eq_true_eq] at hkat
        rcases hkat with hk | hk
        · rw [ha] at hk; exact hk
        · exact absurd (Nat.le_of_ble_eq_true hk) (by omega)
      intro H locs ls hR hl
      obtain ⟨hr1, hr2, hr3⟩ := hroom
      have hd : d < dd := Nat.blt_eq.mp hr3
      have hT : GoodIn mj_tbl (wsV (mM_own M) idx (mM_y M').cls (mM_y M') (mj_wsM M')) := mj_good fun w hw => by
        unfold wsV at hw
        rcases List.mem_append.mp hw with hw | hw
        · simp only [List.mem_cons, List.not_mem_nil, or_false] at hw
          rcases hw with rfl | rfl | rfl | rfl
          · exact mj_in hlink rfl
          · exact mj_in hsel.2 rfl
          · exact mj_in hsel.1 rfl
          · exact hinit'
        · exact mj_goodM hA' w hw
      have cw : CallW R s args (mM_own M) (mM_y M').cls idx (mM_y M') (mM_cc M') (mM_nl M') (mM_ret M') (mj_wsM M') (mj_rm d mc ms) mc ms (mM_np M') := cwV (mM_np M') hts hT rfl rfl rfl ⟨rfl, hm1, hm2, hnp⟩ ⟨by show d + 1 ≤ R.frames; omega, by show 8 + (mM_nl M' + 11) + 40 * d ≤ R.locals; omega⟩
      unfold mj_rcv at hrc
      split at hrc
      · rename_i ci fs C T N hq hble hcl
        simp only [Bool.and_eq_true, decide_eq_true_eq] at hrc
        have hci : ci = M'.2.2.2.2.1 := Nat.eq_of_beq_eq_true hrc.1
        subst hci
        have hat := mj_at.own hble (mj_notJunk hcl) (hR.1 q _ hq)
        have hrv := va_recv hE.1 (mj_sg hat) hcl (q0 := 0) rfl
        have hcls : C = (mM_y M').cls := hrc.2.trans hown'.symm
        refine mw_after (a := (Value.ref (σ q) :: As.map (mj_cv σ)).toArray) (rest := rest.map (mj_cv σ)) hR (va_runV (As := As.map (mj_cv σ)) (b := σ q) (S := ⟨hx, hb, rfl, hown, hts⟩) (hC l σ D cT base) cw ⟨mj_Pc.blind, by rw [← hcls]; exact hrv, fun U hU hW => ⟨rfl, hE.call hR.2.2.2 hU hW, by rw [hU]; exact mj_R0.moved hW.alike ⟨hR.1, hR.2.1, hR.2.2.1⟩⟩⟩ rfl (by rw [List.length_map]; exact hn) hl.1 (by simp only [List.map_append, List.map_reverse, List.map_cons]; rfl) (lv_room (by rw [mj_catS]; exact Nat.le_of_ble_eq_true hw)) hdg ⟨Nat.le_trans (Nat.le_of_ble_eq_true hr1) hRC, Nat.le_trans (Nat.le_of_ble_eq_true hr2) hRS⟩) fun H1 locs1 hR1 => ?_
        have k' := k H1 locs1 ls hR1 hl
        have e9 : (r.toList ++ rest).map (mj_cv σ) = (r.map (mj_cv σ)).toList ++ rest.map (mj_cv σ) := by cases r <;> rfl
        simp only [e9] at k'
        exact k'
      · cases hrc
    · cases hi
theorem g_callS {M M' : mj_M} {κ : mj_K} {RC RS dd : Nat} (hX : mj_X M RC RS dd κ) (hA : mj_okA M = true) (hA' : mj_okA M' = true) {pc : Nat} {L st As rest : List Value} {h h' : mj_H} {cc cs mc ms d : Nat} {r : Option Value} (hC : mj_Ct M' As h r h' mc ms d) (hi : mj_isS (mj_cd M pc) M' = true) (hsta : lw_tbl[mM_p2 M']? = some (Cond.static (mM_y M'))) (hst : st = As.reverse ++ rest) (hn : As.length = mM_np M') (hw : Nat.ble ((rest.map fun v => v.category).sum) 8 = true) (hroom : Nat.ble (cc + mc) RC = true ∧ Nat.ble (cs + ms) RS = true ∧ Nat.blt d dd = true) (k : mj_G κ (pc + 3, L, r.toList ++ rest, h', cc + mc, cs + ms)) : mj_G κ (pc, L, st, h, cc, cs) := by
  subst hst
  obtain ⟨hcode', -, hinit', hown', hpl', hm1, hm2, hnp, hnl⟩ := mj_okA_Y hA'
  obtain ⟨p, l, e, R, s, m, args, below, meth, c, Q, σ, D, cT, base⟩ := κ
  obtain ⟨hx, hb, hml, hown, hts, hE, hini, hRC, hRS, hRd, hRl⟩ := hX
  cases hcd : mj_cd M pc with
  | none => rw [hcd] at hi; cases hi
  | some i =>
    rw [hcd] at hi
    have hkat := mj_okA_K hA hcd
    have hdg := mj_dec hA hcd
    obtain ⟨ins, len, a, b, w, v⟩ := i
    unfold mj_isS at hi
    split at hi
    · rename_i idx a' b' w' v' heq
      cases heq
      simp only [Bool.and_eq_true] at hi
      have ha : a = M'.1 := Nat.eq_of_beq_eq_true hi.1
      have ha2 : a < 1000 := Nat.blt_eq.mp hi.2
      have hlink : lw_tbl[w]? = some (Cond.methodLink (mM_own M) idx (mM_y M')) := by
        unfold mj_kat at hkat
        dsimp only at hkat
        split at hkat
        · omega
        · simp only [Bool.or_eq_true, decide_eq_true_eq] at hkat
          rcases hkat with hk | hk
          · rw [ha] at hk; exact hk
          · exact absurd (Nat.le_of_ble_eq_true hk) (by omega)
      intro H locs ls hR hl
      obtain ⟨hr1, hr2, hr3⟩ := hroom
      have hd : d < dd := Nat.blt_eq.mp hr3
      have hT : GoodIn mj_tbl (va_wsS (mM_own M) idx (mM_y M') (mj_wsM M')) := mj_good fun w hw => by
        unfold va_wsS at hw
        rcases List.mem_append.mp hw with hw | hw
        · simp only [List.mem_cons, List.not_mem_nil, or_false] at hw
          rcases hw with rfl | rfl | rfl
          · exact mj_in hlink rfl
          · exact mj_in hsta rfl
          · exact hinit'
        · exact mj_goodM hA' w hw
      have cw := va_cwS (R := R) (s := s) (args := args) (bytes := mM_cc M') (maxL := mM_nl M') (ret := mM_ret M') (rm := mj_rm d mc ms) (mM_np M') hts hT rfl rfl rfl ⟨hm1, hm2, hnp⟩ ⟨by show d + 1 ≤ R.frames; omega, by show 8 + (mM_nl M' + 11) + 40 * d ≤ R.locals; omega⟩
      refine mw_after (a := (As.map (mj_cv σ)).toArray) (rest := rest.map (mj_cv σ)) hR (va_runS (As := As.map (mj_cv σ)) (S := ⟨hx, hb, rfl, hown, hts⟩) (hC l σ D cT base) cw ⟨mj_Pc.blind, fun U hU hW => ⟨rfl, hE.call hR.2.2.2 hU hW, by rw [hU]; exact mj_R0.moved hW.alike ⟨hR.1, hR.2.1, hR.2.2.1⟩⟩⟩ rfl (by rw [List.length_map]; exact hn) hl.1 (by simp only [List.map_append, List.map_reverse]) (lv_room (by rw [mj_catS]; exact Nat.le_of_ble_eq_true hw)) hdg ⟨Nat.le_trans (Nat.le_of_ble_eq_true hr1) hRC, Nat.le_trans (Nat.le_of_ble_eq_true hr2) hRS⟩) fun H1 locs1 hR1 => ?_
      have k' := k H1 locs1 ls hR1 hl
      have e9 : (r.toList ++ rest).map (mj_cv σ) = (r.map (mj_cv σ)).toList ++ rest.map (mj_cv σ) := by cases r <;> rfl
      simp only [e9] at k'
      exact k'
    · cases hi
theorem g_callI {M M' : mj_M} {κ : mj_K} {RC RS dd : Nat} (hX : mj_X M RC RS dd κ) (hA : mj_okA M = true) (hA' : mj_okA M' = true) {pc q : Nat} {L st As rest : List Value} {h h' : mj_H} {cc cs mc ms d : Nat} (hC : mj_Ct M' (.ref q :: As) h none h' mc ms d) (hi : mj_isI (mj_cd M pc) M' = true) (hin2 : lw_tbl[mM_p2 M']? = some (Cond.instanceMethod (mM_y M'))) (hret : mM_ret M' = none) (hini' : mj_ini M' = true) (hst : st = As.reverse ++ .ref q :: rest) (hn : As.length = mM_np M') (hw : Nat.ble ((rest.map fun v => v.category).sum) 8 = true) (hroom : Nat.ble (cc + mc) RC = true ∧ Nat.ble (cs + ms) RS = true ∧ Nat.blt d dd = true) (k : mj_G κ (pc + 3, L, rest, h', cc + mc, cs + ms)) : mj_G κ (pc, L, st, h, cc, cs) := by
  subst hst
  obtain ⟨hcode', -, hinit', hown', hpl', hm1, hm2, hnp, hnl⟩ := mj_okA_Y hA'
  obtain ⟨p, l, e, R, s, m, args, below, meth, c, Q, σ, D, cT, base⟩ := κ
  obtain ⟨hx, hb, hml, hown, hts, hE, hini, hRC, hRS, hRd, hRl⟩ := hX
  have hnm : (mM_y M').name = "<init>" := of_decide_eq_true hini'
  cases hcd : mj_cd M pc with
  | none => rw [hcd] at hi; cases hi
  | some i =>
    rw [hcd] at hi
    have hkat := mj_okA_K hA hcd
    have hdg := mj_dec hA hcd
    obtain ⟨ins, len, a, b, w, v⟩ := i
    unfold mj_isI at hi
    split at hi
    · rename_i idx a' b' w' v' heq
      cases heq
      simp only [Bool.and_eq_true] at hi
      have ha : a = M'.1 := Nat.eq_of_beq_eq_true hi.1
      have ha2 : a < 1000 := Nat.blt_eq.mp hi.2
      obtain ⟨hr1, hr2, hr3⟩ := hroom
      have hd : d < dd := Nat.blt_eq.mp hr3
      intro H locs ls hR hl
      have hwsM : mj_wsM M' = Cond.code (mM_y M') (mM_cc M') (mM_nl M') none :: mj_tbl := by unfold mj_wsM; rw [hret]
      have hgM : GoodIn mj_tbl (mj_wsM M') := mj_good (mj_goodM hA')
      have hRm : (mj_rm d mc ms).frames + 1 ≤ R.frames ∧ 8 + (mM_nl M' + 11) + (mj_rm d mc ms).locals ≤ R.locals := ⟨by show d + 1 ≤ R.frames; omega, by show 8 + (mM_nl M' + 11) + 40 * d ≤ R.locals; omega⟩
      have fin : ∀ run : va_Run p l e R s m args below meth c H locs cc cs mc ms (F0 m pc ls ((As.reverse ++ .ref q :: rest).map (mj_cv σ))) (rest.map (mj_cv σ)) (mj_Qc σ D cT base none h' (Value.ref (σ q) :: As.map (mj_cv σ)).toArray) (fun q => base ≤ q), W p l e R s m args below meth c H locs cc cs Q (F0 m pc ls ((As.reverse ++ .ref q :: rest).map (mj_cv σ))) := fun run =>
        mw_after (a := (Value.ref (σ q) :: As.map (mj_cv σ)).toArray) (rest := rest.map (mj_cv σ)) hR run fun H1 locs1 hR1 => k H1 locs1 ls hR1 hl
      unfold mj_kat at hkat
      dsimp only at hkat
      split at hkat
      · omega
      · simp only [Bool.or_eq_true, decide_eq_true_eq] at hkat
        have hlink : lw_tbl[w]? = some (Cond.methodLink (mM_own M) idx (mM_y M')) := by
          rcases hkat with hk | hk
          · rw [ha] at hk; exact hk
          · exact absurd (Nat.le_of_ble_eq_true hk) (by omega)
        have cw := cwI (R := R) (rm := mj_rm d mc ms) (mM_np M') hts hgM hwsM rfl rfl (hts _ hinit') (hts _ (mj_in hlink rfl)) (hts _ (mj_in hin2 rfl)) hnm ⟨hm1, hm2, hnp⟩ hRm
        exact fin (va_runI (As := As.map (mj_cv σ)) (b := σ q) (S := ⟨hx, hb, rfl, hown, hts⟩) (hC l σ D cT base) cw ⟨mj_Pc.blind, fun U hU hW => ⟨rfl, hE.call hR.2.2.2 hU hW, by rw [hU]; exact mj_R0.moved hW.alike ⟨hR.1, hR.2.1, hR.2.2.1⟩⟩⟩ rfl (by rw [List.length_map]; exact hn) hl.1 (by simp only [List.map_append, List.map_reverse, List.map_cons]; rfl) (lv_room (by rw [mj_catS]; exact Nat.le_of_ble_eq_true hw)) hdg ⟨Nat.le_trans (Nat.le_of_ble_eq_true hr1) hRC, Nat.le_trans (Nat.le_of_ble_eq_true hr2) hRS⟩)
      · obtain ⟨z, hz1, hz2⟩ := List.any_eq_true.mp hkat
        split at hz2
        · rename_i o i y host
          obtain ⟨e1, e2, e3⟩ := of_decide_eq_true hz2
          rw [e1, e2, e3, ha] at hz1
          have cw := va_cnB (R := R) (s := s) (args := args) (rm := mj_rm d mc ms) (mM_np M') hts hgM hwsM rfl rfl (hE.2.1 _ hz1) (hts _ hinit') ⟨hm1, hm2, hnp⟩ hRm
          exact fin (va_runIN (As := As.map (mj_cv σ)) (b := σ q) (S := ⟨hx, hb, rfl, hown, hts⟩) (hC l σ D cT base) ⟨cw, hnm, hts _ (mj_in hin2 rfl)⟩ ⟨mj_Pc.blind, fun U hU hW => ⟨rfl, hE.call hR.2.2.2 hU hW, by rw [hU]; exact mj_R0.moved hW.alike ⟨hR.1, hR.2.1, hR.2.2.1⟩⟩⟩ rfl (by rw [List.length_map]; exact hn) hl.1 (by simp only [List.map_append, List.map_reverse, List.map_cons]; rfl) (lv_room (by rw [mj_catS]; exact Nat.le_of_ble_eq_true hw)) hdg ⟨Nat.le_trans (Nat.le_of_ble_eq_true hr1) hRC, Nat.le_trans (Nat.le_of_ble_eq_true hr2) hRS⟩)
        · cases hz2
    · cases hi
def mj_isO (i : Option mj_I) : Bool := match i with
  | some (.invokespecial _, 3, 1000, _, _, _) => true
  | _ => false
theorem mj_obj : Cond.instanceMethod objectInit ∈ mj_tbl ∧ Cond.code objectInit ⟨#[0xb1]⟩ 1 none ∈ mj_tbl := ⟨mj_in (p := mj_ob1) (by decide +kernel) rfl, mj_in (p := mj_ob2) (by decide +kernel) rfl⟩
/-- Object's constructor -/
theorem g_obj {M : mj_M} {κ : mj_K} {RC RS dd : Nat} (hX : mj_X M RC RS dd κ) (hA : mj_okA M = true) {pc q : Nat} {L rest : List Value} {h : mj_H} {cc cs : Nat} (hi : mj_isO (mj_cd M pc) = true) (hw : Nat.ble ((rest.map fun v => v.category).sum) 8 = true) (hd : Nat.blt 0 dd = true) (k : mj_G κ (pc + 3, L, rest, h, cc, cs)) : mj_G κ (pc, L, .ref q :: rest, h, cc, cs) := by
  obtain ⟨p, l, e, R, s, m, args, below, meth, c, Q, σ, D, cT, base⟩ := κ
  obtain ⟨hx, hb, hml, hown, hts, hE, hini, hRC, hRS, hRd, hRl⟩ := hX
  cases hcd : mj_cd M pc with
  | none => rw [hcd] at hi; cases hi
  | some i =>
    rw [hcd] at hi
    have hkat := mj_okA_K hA hcd
    have hdg := mj_dec hA hcd
    obtain ⟨ins, len, a, b, w, v⟩ := i
    unfold mj_isO at hi
    split at hi
    · rename_i idx b' w' v' heq
      cases heq
      have hlink : lw_tbl[w]? = some (Cond.methodLink (mM_own M) idx objectInit) := of_decide_eq_true hkat
      have hd' : 0 < dd := Nat.blt_eq.mp hd
      intro H locs ls hR hl
      have hw' : ((rest.map (mj_cv σ)).map fun v => v.category).sum ≤ 8 := by rw [mj_catS]; exact Nat.le_of_ble_eq_true hw
      exact W.objInit hx hb hown (hts _ (mj_in hlink rfl)) (hts _ mj_obj.1) (hts _ mj_obj.2) rfl hl.1 rfl hdg (by omega) (by show 2 * 0 + _ + 12 ≤ _; omega) (k H locs ls hR hl)
    · cases hi
