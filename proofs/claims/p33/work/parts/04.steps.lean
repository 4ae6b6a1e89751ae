/-! THE STEPS, one by one -/
theorem mj_ni {x : Int32} : Value.int x ≠ mj_u := fun q => by unfold mj_u at q; cases q
theorem mj_nl {x : Int64} : Value.long x ≠ mj_u := fun q => by unfold mj_u at q; cases q
theorem mj_nd {x : UInt64} : Value.double x ≠ mj_u := fun q => by unfold mj_u at q; cases q
theorem mj_nr {x : Nat} : Value.ref x ≠ mj_u := fun q => by unfold mj_u at q; cases q
theorem mj_sg {D : va_G} {cl : List vw_C} {q : Nat} {e : va_E} {H : Heap} (h : va_at D cl (q, e) H) : va_P D cl [(q, e)] H := by
  intro k z hz
  match k, hz with
  | 0, hz => cases hz; exact h
  | k + 1, hz => simp at hz
theorem mj_arrc : (mj_tyl.zip mj_typ).all (fun z => decide (lw_tbl[z.2]? = some (Cond.arrayClass z.1))) = true ∧ mj_tyl.length = mj_typ.length := by decide +kernel
theorem mj_arr {ty : FieldType} (h : ty ∈ mj_tyl) : Cond.arrayClass ty ∈ mj_tbl := by
  obtain ⟨h0, hlen⟩ := mj_arrc
  obtain ⟨k, hk⟩ := List.getElem?_of_mem h
  have hl : k < mj_typ.length := by rw [← hlen]; exact (List.getElem?_eq_some_iff.mp hk).1
  have hz : (mj_tyl.zip mj_typ)[k]? = some (ty, mj_typ[k]) := List.getElem?_zip_eq_some.mpr ⟨hk, List.getElem?_eq_getElem hl⟩
  exact mj_in (of_decide_eq_true (List.all_eq_true.mp h0 _ (List.mem_of_getElem? hz))) rfl
section MW
variable {p : Program} {l : Launch} {e : Env} {R : Room} {s : State} {m : MethodId} {args : Array Value} {below : List Frame} {meth : Method} {c : Code} {H : Heap} {locs : List Loc} {cells slots : Nat} {Q : State → Prop}
variable {cc : ByteArray} {pc : Nat} {ls ls' : Array Slot} {rest : List Value}

theorem mw_istore (hexec : p.tables.exec = Jvm.exec) (hb : c.code = cc) {i : Nat} {x : Int32} (hdg : decode cc pc = .ok (.istore i, 2)) (e' : storeLocals ls (i : Nat) (.int x) = some ls')
    (k : W p l e R s m args below meth c H locs cells slots Q (F0 m (pc + 2) ls' rest)) : W p l e R s m args below meth c H locs cells slots Q (F0 m pc ls (.int x :: rest)) := by
  intro T hT X
  obtain ⟨t, a, b⟩ := k T hT X
  refine ⟨t, ?_, b⟩
  jvm_step X.here [X.here.top, ↓top_set X.here.top, hexec, hb, hdg, e']
  exact a
theorem mw_istore_n (hexec : p.tables.exec = Jvm.exec) (hb : c.code = cc) {i : Fin 4} {x : Int32} (hdg : decode cc pc = .ok (.istore_n i, 1)) (e' : storeLocals ls (i : Nat) (.int x) = some ls')
    (k : W p l e R s m args below meth c H locs cells slots Q (F0 m (pc + 1) ls' rest)) : W p l e R s m args below meth c H locs cells slots Q (F0 m pc ls (.int x :: rest)) := by
  intro T hT X
  obtain ⟨t, a, b⟩ := k T hT X
  refine ⟨t, ?_, b⟩
  jvm_step X.here [X.here.top, ↓top_set X.here.top, hexec, hb, hdg, e']
  exact a
theorem mw_astore (hexec : p.tables.exec = Jvm.exec) (hb : c.code = cc) {i : Nat} {x : Nat} (hdg : decode cc pc = .ok (.astore i, 2)) (e' : storeLocals ls (i : Nat) (.ref x) = some ls')
    (k : W p l e R s m args below meth c H locs cells slots Q (F0 m (pc + 2) ls' rest)) : W p l e R s m args below meth c H locs cells slots Q (F0 m pc ls (.ref x :: rest)) := by
  intro T hT X
  obtain ⟨t, a, b⟩ := k T hT X
  refine ⟨t, ?_, b⟩
  jvm_step X.here [X.here.top, ↓top_set X.here.top, hexec, hb, hdg, e', Value.isRef]
  exact a
theorem mw_astore_n (hexec : p.tables.exec = Jvm.exec) (hb : c.code = cc) {i : Fin 4} {x : Nat} (hdg : decode cc pc = .ok (.astore_n i, 1)) (e' : storeLocals ls (i : Nat) (.ref x) = some ls')
    (k : W p l e R s m args below meth c H locs cells slots Q (F0 m (pc + 1) ls' rest)) : W p l e R s m args below meth c H locs cells slots Q (F0 m pc ls (.ref x :: rest)) := by
  intro T hT X
  obtain ⟨t, a, b⟩ := k T hT X
  refine ⟨t, ?_, b⟩
  jvm_step X.here [X.here.top, ↓top_set X.here.top, hexec, hb, hdg, e', Value.isRef]
  exact a
theorem mw_lstore (hexec : p.tables.exec = Jvm.exec) (hb : c.code = cc) {i : Nat} {x : Int64} (hdg : decode cc pc = .ok (.lstore i, 2)) (e' : storeLocals ls (i : Nat) (.long x) = some ls')
    (k : W p l e R s m args below meth c H locs cells slots Q (F0 m (pc + 2) ls' rest)) : W p l e R s m args below meth c H locs cells slots Q (F0 m pc ls (.long x :: rest)) := by
  intro T hT X
  obtain ⟨t, a, b⟩ := k T hT X
  refine ⟨t, ?_, b⟩
  jvm_step X.here [X.here.top, ↓top_set X.here.top, hexec, hb, hdg, e']
  exact a
theorem mw_lstore_n (hexec : p.tables.exec = Jvm.exec) (hb : c.code = cc) {i : Fin 4} {x : Int64} (hdg : decode cc pc = .ok (.lstore_n i, 1)) (e' : storeLocals ls (i : Nat) (.long x) = some ls')
    (k : W p l e R s m args below meth c H locs cells slots Q (F0 m (pc + 1) ls' rest)) : W p l e R s m args below meth c H locs cells slots Q (F0 m pc ls (.long x :: rest)) := by
  intro T hT X
  obtain ⟨t, a, b⟩ := k T hT X
  refine ⟨t, ?_, b⟩
  jvm_step X.here [X.here.top, ↓top_set X.here.top, hexec, hb, hdg, e']
  exact a
theorem mw_dstore (hexec : p.tables.exec = Jvm.exec) (hb : c.code = cc) {i : Nat} {x : UInt64} (hdg : decode cc pc = .ok (.dstore i, 2)) (e' : storeLocals ls (i : Nat) (.double x) = some ls')
    (k : W p l e R s m args below meth c H locs cells slots Q (F0 m (pc + 2) ls' rest)) : W p l e R s m args below meth c H locs cells slots Q (F0 m pc ls (.double x :: rest)) := by
  intro T hT X
  obtain ⟨t, a, b⟩ := k T hT X
  refine ⟨t, ?_, b⟩
  jvm_step X.here [X.here.top, ↓top_set X.here.top, hexec, hb, hdg, e']
  exact a
theorem mw_iinc (hexec : p.tables.exec = Jvm.exec) (hb : c.code = cc) {i : Nat} {n : Int} {x : Int32} (hdg : decode cc pc = .ok (.iinc i n, 3)) (hg : ls[i]? = some (.val (.int x))) (e' : storeLocals ls i (.int (x + Int32.ofInt n)) = some ls')
    (k : W p l e R s m args below meth c H locs cells slots Q (F0 m (pc + 3) ls' rest)) : W p l e R s m args below meth c H locs cells slots Q (F0 m pc ls rest) := by
  intro T hT X
  obtain ⟨t, a, b⟩ := k T hT X
  refine ⟨t, ?_, b⟩
  jvm_step X.here [X.here.top, ↓top_set X.here.top, hexec, hb, hdg, hg, e']
  exact a
variable {D : va_G} {cl : List vw_C} {a : Nat} {tys : List (ClassId × FieldType)}
theorem mw_put (hexec : p.tables.exec = Jvm.exec) (hb : c.code = cc) {own C : String} {T : u_T} {N ci index : Nat} {Ts : List Cond} (hts : ∀ w ∈ Ts, w.before args s = true) (hin : ∀ w ∈ u_ws C T N, w ∈ Ts) (ty0 : Nat → FieldType) (hty : ∀ k, k < N → parseFieldDescriptor (T k).2.2.1 = some (ty0 k)) (hnm : ∀ a, a < N → ∀ b, b < N → a ≠ b → (T a).2.1 ≠ (T b).2.1) (hown : s.vm.findClass own = some m.cls) (hK : va_K D cl tys s) {fs : List Value} (hat : va_at D cl (a, .inr (ci, fs)) H) (hc : cl[ci]? = some (C, T, N)) (k : Nat) (hk : k < N) (hlink : (Cond.fieldLink own index (T k).1 (T k).2.1 (T k).2.2.1).before args s = true) (hfin : (T k).2.2.2 = true → meth.name = "<init>" ∧ own = (T k).1) {ty : FieldType} {v : Value} (hd : parseFieldDescriptor (T k).2.2.1 = some ty) (hn : narrow ty v = v) (hfit : fits ty v = true) (hl : k < fs.length)
    (hdg : decode cc pc = .ok (.putfield index, 3)) (kk : ∀ (H1 : Heap) (j : Nat), va_at D cl (a, .inr (ci, fs.set k v)) H1 → H1.size = H.size → (∀ q, q ≠ a → H1[q]? = H[q]?) → W p l e R s m args below meth c H1 (locs ++ [⟨a, j⟩]) cells slots Q (F0 m (pc + 3) ls rest)) : W p l e R s m args below meth c H locs cells slots Q (F0 m pc ls (v :: .ref a :: rest)) := by
  have hap := va_apart (own := own) hts hin ty0 hty hnm hK hc
  obtain ⟨r, h1, cell, q1, q2, q3, q4⟩ := hat
  have hr : r = (C, T, N) := Option.some.inj (h1.symm.trans hc)
  subst hr
  obtain ⟨hS, hfc, kC, hkC, hkind⟩ := hK.1 ci _ hc
  obtain ⟨cf, kf, fi, f, hi, hsl⟩ := hS k hk
  have hi' : s.fieldFound? (T k).1 (T k).2.1 (T k).2.2.1 = some (cf, kf, fi, f) := hi
  have hlay := hts _ (hin _ (u_in_lay hk))
  have hst := (u_facts hfc hkC (u_lays hts hin hk) hi).1
  have fin : ∀ (H' : Heap), H'[a]? = some (cell.setSlot f.slot v) → va_at D cl (a, .inr (ci, fs.set k v)) H' := fun H' e1 => by
    rw [hsl] at e1
    exact ⟨_, hc, t_OB.to (V := updV (vp_V fs) k v) ⟨_, e1, q2, q3, t_set q4 hap hk v⟩ (fun j _ => vp_updV_set hl v j)⟩
  unfold u_lay at hlay
  by_cases hF : (T k).2.2.2 = true
  · rw [if_pos hF] at hlay
    obtain ⟨hin2, hoC⟩ := hfin hF
    have hcf : m.cls = cf := by
      obtain ⟨_, _, c', _, _, _, -, -, hf', -, -, -, hown2, -⟩ := Cond.laysFinal_spec hlay
      have e1 : c' = cf := by have := hi.symm.trans hf'; simp at this; exact this.1.symm
      rw [← hoC] at hown2
      rw [← e1]; exact Option.some.inj (hown.symm.trans hown2)
    have h6 := u_fits hfc hkC hkind (Or.inr hlay) hi hd hn hfit
    refine W.putFinK hexec hb hown hlink hi' hst hcf hin2 (by rw [q2]; exact h6) q1 q3 (by rw [hsl]; exact k2_hasslot (q4 k hk)) rfl rfl hdg fun H' e1 e2 e3 => ?_
    exact kk H' _ (fin H' e1) e2 e3
  · rw [if_neg hF] at hlay
    have h6 := u_store hfc hkC hkind hlay hi hd hn hfit
    refine W.putK hexec hb (f := f) ⟨hown, hlink, ⟨_, _, _, hi'⟩, hst⟩ (by rw [q2]; exact h6) q1 q3 (by rw [hsl]; exact k2_hasslot (q4 k hk)) rfl rfl hdg fun H' e1 e2 e3 => ?_
    exact kk H' _ (fin H' e1) e2 e3
end MW
theorem mj_cellS {cA : ClassId} {N k : Nat} {f : Nat → Int32} {x : Int32} : (vp_cell cA (N, .inl f)).setSlot k (.int x) = vp_cell cA (N, .inl (upd f k x)) := by
  rw [vp_cell_i, vp_cell_i, arrV_store]
  congr 1
  funext q
  by_cases hq : q = k
  · subst hq
    simp [updV, upd]
  · simp [updV, upd, hq]
theorem mj_cellL {cA : ClassId} {N k : Nat} {f : Nat → Int64} {x : Int64} : (vp_cell cA (N, .inr (.inl f))).setSlot k (.long x) = vp_cell cA (N, .inr (.inl (vp_updL f k x))) := by
  rw [vp_cell_l, vp_cell_l, arrV_store]
  congr 1
  funext q
  by_cases hq : q = k
  · subst hq
    simp [updV, vp_updL]
  · simp [updV, vp_updL, hq]

set_option maxHeartbeats 4000000 in
theorem mj_sim {M : mj_M} {κ : mj_K} {RC RS dd : Nat} (hX : mj_X M RC RS dd κ) {pc : Nat} {L st : List Value} {h : mj_H} {cc cs : Nat} {i : mj_I} (hok : mj_okI (mM_own M) (mj_ini M) (mM_cc M) pc i = true) {d : Bool} {P : Option Prop} {g' : mj_S} (hnL : mj_fitL (mM_nl M) i = true) (hs : mj_step RC RS i d (pc, L, st, h, cc, cs) = some (P, g')) (hP : mj_and P True) (k : mj_G κ g') : mj_G κ (pc, L, st, h, cc, cs) := by
  obtain ⟨p, l, e, R, s, m, args, below, meth, c, Q, σ, D, cT, base⟩ := κ
  obtain ⟨hx, hb, hml, hown, hts, hE, hini, hRC, hRS, -, -⟩ := hX
  obtain ⟨hK, hN, hZ, hbase, hσ⟩ := hE
  obtain ⟨ins, len, a, b, w, v⟩ := i
  simp only [mj_okI, Bool.and_eq_true, decide_eq_true_eq] at hok
  obtain ⟨hdg, hok⟩ := hok
  cases ins <;> simp only [mj_step] at hs <;> (try (cases hs; done))
  case iconst n =>
    simp only [Bool.and_eq_true, beq_iff_eq, decide_eq_true_eq] at hok
    obtain ⟨rfl, rfl⟩ := hok
    cases hs
    intro H locs ls hR hl
    exact lv_iconst hx hb hdg rfl (k H locs ls hR hl)
  case bipush n =>
    simp only [Bool.and_eq_true, beq_iff_eq, decide_eq_true_eq] at hok
    obtain ⟨rfl, rfl⟩ := hok
    cases hs
    intro H locs ls hR hl
    exact lv_bipush hx hb hdg rfl (k H locs ls hR hl)
  case sipush n =>
    simp only [Bool.and_eq_true, beq_iff_eq, decide_eq_true_eq] at hok
    obtain ⟨rfl, rfl⟩ := hok
    cases hs
    intro H locs ls hR hl
    exact lv_sipush hx hb hdg rfl (k H locs ls hR hl)
  case lconst n =>
    simp only [Bool.and_eq_true, beq_iff_eq, decide_eq_true_eq] at hok
    obtain ⟨rfl, rfl⟩ := hok
    cases hs
    intro H locs ls hR hl
    exact lv_lconst hx hb hdg rfl (k H locs ls hR hl)
  case ldc idx =>
    simp only [Bool.and_eq_true, beq_iff_eq] at hok
    obtain ⟨rfl, hok⟩ := hok
    split at hs
    · rename_i x
      cases hs
      intro H locs ls hR hl
      exact lv_ldc hx hb hown (hts _ (mj_in (of_decide_eq_true hok) rfl)) hdg (k H locs ls hR hl)
    · cases hs
  case ldc2_w idx =>
    simp only [Bool.and_eq_true, beq_iff_eq] at hok
    obtain ⟨rfl, hok⟩ := hok
    split at hok
    · rename_i x
      cases hs
      intro H locs ls hR hl
      exact lv_ldc2 hx hb hown (hts _ (mj_in (of_decide_eq_true hok) rfl)) hdg (k H locs ls hR hl)
    · cases hok
  case iload kk =>
    simp only [Bool.and_eq_true, beq_iff_eq] at hok
    obtain ⟨rfl, rfl⟩ := hok
    split at hs
    · rename_i x hx1
      cases hs
      intro H locs ls hR hl
      exact lv_iload hx hb hdg (hl.at hx1 mj_ni) (k H locs ls hR hl)
    · cases hs
  case iload_n kk =>
    simp only [Bool.and_eq_true, beq_iff_eq] at hok
    obtain ⟨rfl, rfl⟩ := hok
    split at hs
    · rename_i x hx1
      cases hs
      intro H locs ls hR hl
      exact lv_iload_n hx hb hdg rfl (hl.at hx1 mj_ni) (k H locs ls hR hl)
    · cases hs
  case lload kk =>
    simp only [Bool.and_eq_true, beq_iff_eq] at hok
    obtain ⟨rfl, rfl⟩ := hok
    split at hs
    · rename_i x hx1
      cases hs
      intro H locs ls hR hl
      exact lv_lload hx hb hdg (hl.at hx1 mj_nl) (k H locs ls hR hl)
    · cases hs
  case lload_n kk =>
    simp only [Bool.and_eq_true, beq_iff_eq] at hok
    obtain ⟨rfl, rfl⟩ := hok
    split at hs
    · rename_i x hx1
      cases hs
      intro H locs ls hR hl
      exact lv_lload_n hx hb hdg rfl (hl.at hx1 mj_nl) (k H locs ls hR hl)
    · cases hs
  case dload kk =>
    simp only [Bool.and_eq_true, beq_iff_eq] at hok
    obtain ⟨rfl, rfl⟩ := hok
    split at hs
    · rename_i x hx1
      cases hs
      intro H locs ls hR hl
      exact lv_dload hx hb hdg (hl.at hx1 mj_nd) (k H locs ls hR hl)
    · cases hs
  case aload kk =>
    simp only [Bool.and_eq_true, beq_iff_eq] at hok
    obtain ⟨rfl, rfl⟩ := hok
    split at hs
    · rename_i x hx1
      cases hs
      intro H locs ls hR hl
      exact lv_aload hx hb hdg (hl.at hx1 mj_nr) (k H locs ls hR hl)
    · cases hs
  case aload_n kk =>
    simp only [Bool.and_eq_true, beq_iff_eq] at hok
    obtain ⟨rfl, rfl⟩ := hok
    split at hs
    · rename_i x hx1
      cases hs
      intro H locs ls hR hl
      exact lv_aload_n hx hb hdg rfl (hl.at hx1 mj_nr) (k H locs ls hR hl)
    · cases hs
  case istore kk =>
    simp only [Bool.and_eq_true, beq_iff_eq] at hok
    obtain ⟨rfl, rfl⟩ := hok
    split at hs
    · rename_i x r
      cases hs
      intro H locs ls hR hl
      obtain ⟨ls', e', hl'⟩ := mj_store1 hl (v := .int x) (by rw [hml]; exact of_decide_eq_true hnL) rfl
      exact mw_istore hx hb hdg e' (k H locs ls' hR hl')
    · cases hs
  case istore_n kk =>
    simp only [Bool.and_eq_true, beq_iff_eq] at hok
    obtain ⟨rfl, rfl⟩ := hok
    split at hs
    · rename_i x r
      cases hs
      intro H locs ls hR hl
      obtain ⟨ls', e', hl'⟩ := mj_store1 hl (v := .int x) (by rw [hml]; exact of_decide_eq_true hnL) rfl
      exact mw_istore_n hx hb hdg e' (k H locs ls' hR hl')
    · cases hs
  case astore kk =>
    simp only [Bool.and_eq_true, beq_iff_eq] at hok
    obtain ⟨rfl, rfl⟩ := hok
    split at hs
    · rename_i x r
      cases hs
      intro H locs ls hR hl
      obtain ⟨ls', e', hl'⟩ := mj_store1 hl (v := .ref x) (by rw [hml]; exact of_decide_eq_true hnL) rfl
      exact mw_astore hx hb hdg e' (k H locs ls' hR hl')
    · cases hs
  case astore_n kk =>
    simp only [Bool.and_eq_true, beq_iff_eq] at hok
    obtain ⟨rfl, rfl⟩ := hok
    split at hs
    · rename_i x r
      cases hs
      intro H locs ls hR hl
      obtain ⟨ls', e', hl'⟩ := mj_store1 hl (v := .ref x) (by rw [hml]; exact of_decide_eq_true hnL) rfl
      exact mw_astore_n hx hb hdg e' (k H locs ls' hR hl')
    · cases hs
  case lstore kk =>
    simp only [Bool.and_eq_true, beq_iff_eq] at hok
    obtain ⟨rfl, rfl⟩ := hok
    split at hs
    · rename_i x r
      cases hs
      intro H locs ls hR hl
      obtain ⟨ls', e', hl'⟩ := mj_store2 hl (v := .long x) (by rw [hml]; exact of_decide_eq_true hnL) rfl
      exact mw_lstore hx hb hdg e' (k H locs ls' hR hl')
    · cases hs
  case lstore_n kk =>
    simp only [Bool.and_eq_true, beq_iff_eq] at hok
    obtain ⟨rfl, rfl⟩ := hok
    split at hs
    · rename_i x r
      cases hs
      intro H locs ls hR hl
      obtain ⟨ls', e', hl'⟩ := mj_store2 hl (v := .long x) (by rw [hml]; exact of_decide_eq_true hnL) rfl
      exact mw_lstore_n hx hb hdg e' (k H locs ls' hR hl')
    · cases hs
  case dstore kk =>
    simp only [Bool.and_eq_true, beq_iff_eq] at hok
    obtain ⟨rfl, rfl⟩ := hok
    split at hs
    · rename_i x r
      cases hs
      intro H locs ls hR hl
      obtain ⟨ls', e', hl'⟩ := mj_store2 hl (v := .double x) (by rw [hml]; exact of_decide_eq_true hnL) rfl
      exact mw_dstore hx hb hdg e' (k H locs ls' hR hl')
    · cases hs
  case iinc kk n =>
    simp only [Bool.and_eq_true, beq_iff_eq, decide_eq_true_eq] at hok
    obtain ⟨⟨rfl, rfl⟩, rfl⟩ := hok
    split at hs
    · rename_i x n' hx1 hv
      cases hs
      cases hv
      intro H locs ls hR hl
      obtain ⟨ls', e', hl'⟩ := mj_store1 hl (v := .int (x + Int32.ofInt n)) (by rw [hml]; exact of_decide_eq_true hnL) rfl
      exact mw_iinc hx hb hdg (hl.at hx1 mj_ni) e' (k H locs ls' hR hl')
    · cases hs
  case iadd  =>
    split at hs
    · rename_i y x r
      cases hs
      cases (beq_iff_eq.mp hnL)
      intro H locs ls hR hl
      exact lv_iadd hx hb hdg (k H locs ls hR hl)
    · cases hs
  case isub  =>
    split at hs
    · rename_i y x r
      cases hs
      cases (beq_iff_eq.mp hnL)
      intro H locs ls hR hl
      exact lv_isub hx hb hdg (k H locs ls hR hl)
    · cases hs
  case imul  =>
    split at hs
    · rename_i y x r
      cases hs
      cases (beq_iff_eq.mp hnL)
      intro H locs ls hR hl
      exact lv_imul hx hb hdg (k H locs ls hR hl)
    · cases hs
  case iand  =>
    split at hs
    · rename_i y x r
      cases hs
      cases (beq_iff_eq.mp hnL)
      intro H locs ls hR hl
      exact lv_iand hx hb hdg (k H locs ls hR hl)
    · cases hs
  case ixor  =>
    split at hs
    · rename_i y x r
      cases hs
      cases (beq_iff_eq.mp hnL)
      intro H locs ls hR hl
      exact lv_ixor hx hb hdg (k H locs ls hR hl)
    · cases hs
  case ishr  =>
    split at hs
    · rename_i y x r
      cases hs
      cases (beq_iff_eq.mp hnL)
      intro H locs ls hR hl
      exact lv_ishr hx hb hdg (k H locs ls hR hl)
    · cases hs
  case ladd  =>
    split at hs
    · rename_i y x r
      cases hs
      cases (beq_iff_eq.mp hnL)
      intro H locs ls hR hl
      exact lv_ladd hx hb hdg (k H locs ls hR hl)
    · cases hs
  case lmul  =>
    split at hs
    · rename_i y x r
      cases hs
      cases (beq_iff_eq.mp hnL)
      intro H locs ls hR hl
      exact lv_lmul hx hb hdg (k H locs ls hR hl)
    · cases hs
  case lcmp  =>
    split at hs
    · rename_i y x r
      cases hs
      cases (beq_iff_eq.mp hnL)
      intro H locs ls hR hl
      exact W.lcmp hx hb hdg (k H locs ls hR hl)
    · cases hs
  case idiv  =>
    split at hs
    · rename_i y x r
      cases hs
      cases (beq_iff_eq.mp hnL)
      intro H locs ls hR hl
      exact lv_idiv hx hb hdg (And.left (show _ ∧ True from hP)) (k H locs ls hR hl)
    · cases hs
  case irem  =>
    split at hs
    · rename_i y x r
      cases hs
      cases (beq_iff_eq.mp hnL)
      intro H locs ls hR hl
      exact lv_irem hx hb hdg (And.left (show _ ∧ True from hP)) (k H locs ls hR hl)
    · cases hs
  case dconst n =>
    simp only [Bool.and_eq_true, beq_iff_eq, decide_eq_true_eq] at hok
    obtain ⟨rfl, rfl, rfl⟩ := hok
    cases hs
    intro H locs ls hR hl
    exact lv_dconst0 hx hb hdg (k H locs ls hR hl)
  case i2d  =>
    split at hs
    · rename_i x r
      cases hs
      cases (beq_iff_eq.mp hnL)
      intro H locs ls hR hl
      exact lv_i2d hx hb hdg (k H locs ls hR hl)
    · cases hs
  case ddiv  =>
    split at hs
    · rename_i y x r
      cases hs
      cases (beq_iff_eq.mp hnL)
      intro H locs ls hR hl
      exact lv_ddiv hx hb hdg (And.left (show _ ∧ True from hP)) (k H locs ls hR hl)
    · cases hs
  case dcmp op =>
    split at hs
    · rename_i y x r
      cases hs
      cases (beq_iff_eq.mp hnL)
      intro H locs ls hR hl
      exact lv_dcmp hx hb hdg (k H locs ls hR hl)
    · cases hs
  case ineg  =>
    split at hs
    · rename_i x r
      cases hs
      cases (beq_iff_eq.mp hnL)
      intro H locs ls hR hl
      exact lv_ineg hx hb hdg (k H locs ls hR hl)
    · cases hs
  case i2l  =>
    split at hs
    · rename_i x r
      cases hs
      cases (beq_iff_eq.mp hnL)
      intro H locs ls hR hl
      exact lv_i2l hx hb hdg rfl (k H locs ls hR hl)
    · cases hs
  case dup  =>
    split at hs
    · rename_i x r
      cases hs
      cases (beq_iff_eq.mp hnL)
      intro H locs ls hR hl
      exact lv_dup hx hb hdg rfl (k H locs ls hR hl)
    · rename_i x r
      cases hs
      cases (beq_iff_eq.mp hnL)
      intro H locs ls hR hl
      exact lv_dup hx hb hdg rfl (k H locs ls hR hl)
    · cases hs
  case dup2  =>
    split at hs
    · rename_i x y r
      cases hs
      cases (beq_iff_eq.mp hnL)
      intro H locs ls hR hl
      exact lv_dup2_11 hx hb hdg rfl rfl (k H locs ls hR hl)
    · cases hs
  case pop  =>
    split at hs
    · rename_i x r
      cases hs
      cases (beq_iff_eq.mp hnL)
      intro H locs ls hR hl
      exact lv_pop hx hb hdg rfl (k H locs ls hR hl)
    · rename_i x r
      cases hs
      cases (beq_iff_eq.mp hnL)
      intro H locs ls hR hl
      exact lv_pop hx hb hdg rfl (k H locs ls hR hl)
    · cases hs
  case ifCond co off =>
    simp only [Bool.and_eq_true, beq_iff_eq, decide_eq_true_eq] at hok
    obtain ⟨rfl, ht⟩ := hok
    split at hs
    · rename_i x r
      split at hs
      · cases hs
        have hp := And.left (show _ ∧ True from hP)
        intro H locs ls hR hl
        have k' := k H locs ls hR hl
        cases co
        · exact lv_if_eq hx hb hdg ht (fun _ => k') (fun z => absurd hp z)
        · exact lv_if_ne hx hb hdg ht (fun _ => k') (fun z => absurd hp (fun w => w z))
        · exact lv_if_lt hx hb hdg ht (fun _ => k') (fun z => absurd hp z)
        · exact lv_if_ge hx hb hdg ht (fun _ => k') (fun z => absurd hp z)
        · exact lv_if_gt hx hb hdg ht (fun _ => k') (fun z => absurd hp z)
        · exact lv_if_le hx hb hdg ht (fun _ => k') (fun z => absurd hp z)
      · cases hs
        have hp := And.left (show _ ∧ True from hP)
        intro H locs ls hR hl
        have k' := k H locs ls hR hl
        cases co
        · exact lv_if_eq hx hb hdg ht (fun z => absurd z hp) (fun _ => k')
        · exact lv_if_ne hx hb hdg ht (fun z => absurd z hp) (fun _ => k')
        · exact lv_if_lt hx hb hdg ht (fun z => absurd z hp) (fun _ => k')
        · exact lv_if_ge hx hb hdg ht (fun z => absurd z hp) (fun _ => k')
        · exact lv_if_gt hx hb hdg ht (fun z => absurd z hp) (fun _ => k')
        · exact lv_if_le hx hb hdg ht (fun z => absurd z hp) (fun _ => k')
    · cases hs
  case if_icmp co off =>
    simp only [Bool.and_eq_true, beq_iff_eq, decide_eq_true_eq] at hok
    obtain ⟨rfl, ht⟩ := hok
    split at hs
    · rename_i y x r
      split at hs
      · cases hs
        have hp := And.left (show _ ∧ True from hP)
        intro H locs ls hR hl
        have k' := k H locs ls hR hl
        cases co
        · exact lv_icmp_eq hx hb hdg ht (fun _ => k') (fun z => absurd hp z)
        · exact lv_icmp_ne hx hb hdg ht (fun _ => k') (fun z => absurd hp (fun w => w z))
        · exact lv_icmp_lt hx hb hdg ht (fun _ => k') (fun z => absurd hp z)
        · exact lv_icmp_ge hx hb hdg ht (fun _ => k') (fun z => absurd hp z)
        · exact lv_icmp_gt hx hb hdg ht (fun _ => k') (fun z => absurd hp z)
        · exact lv_icmp_le hx hb hdg ht (fun _ => k') (fun z => absurd hp z)
      · cases hs
        have hp := And.left (show _ ∧ True from hP)
        intro H locs ls hR hl
        have k' := k H locs ls hR hl
        cases co
        · exact lv_icmp_eq hx hb hdg ht (fun z => absurd z hp) (fun _ => k')
        · exact lv_icmp_ne hx hb hdg ht (fun z => absurd z hp) (fun _ => k')
        · exact lv_icmp_lt hx hb hdg ht (fun z => absurd z hp) (fun _ => k')
        · exact lv_icmp_ge hx hb hdg ht (fun z => absurd z hp) (fun _ => k')
        · exact lv_icmp_gt hx hb hdg ht (fun z => absurd z hp) (fun _ => k')
        · exact lv_icmp_le hx hb hdg ht (fun z => absurd z hp) (fun _ => k')
    · cases hs
  case goto off =>
    simp only [Bool.and_eq_true, beq_iff_eq, decide_eq_true_eq] at hok
    obtain ⟨rfl, ht⟩ := hok
    cases hs
    intro H locs ls hR hl
    exact lv_goto hx hb hdg ht (k H locs ls hR hl)
  case iaload  =>
    simp only [Bool.and_eq_true, beq_iff_eq, decide_eq_true_eq] at hok
    obtain ⟨rfl, hty⟩ := hok
    obtain ⟨t0, ht0⟩ := mj_tyAt (cT := cT) hty
    split at hs
    · rename_i x q r
      split at hs
      · rename_i N f hq
        cases hs
        have hin : vp_in x N := And.left (show _ ∧ True from hP)
        intro H locs ls hR hl
        have hat := hR.1 q _ hq
        unfold mj_at at hat
        split at hat
        · exact va_iald hx hb hK (mj_sg (hat.1 rfl)) 0 t0 rfl ht0 hin hdg (k H locs ls hR hl)
        · obtain ⟨cell, h1, h2, h3, h4, h5, h6, h7⟩ := hat
          have hlt : x.toNatClampNeg < N := Nat.not_le.mp fun q => hin (Or.inr q)
          have hin' : ¬ (x < 0 ∨ cell.slots.size ≤ x.toNatClampNeg) := by
            intro q
            rcases q with q | q
            · exact hin (Or.inl q)
            · omega
          exact W.iald hx hb h1 h2 h3 hin' (h6 _ hlt) rfl rfl hdg (k H locs ls hR hl)
      · cases hs
    · cases hs
  case baload  =>
    simp only [Bool.and_eq_true, beq_iff_eq, decide_eq_true_eq] at hok
    obtain ⟨rfl, hty⟩ := hok
    obtain ⟨t0, ht0⟩ := mj_tyAt (cT := cT) hty
    split at hs
    · rename_i x q r
      split at hs
      · rename_i N f hq hble
        cases hs
        have hin : vp_in x N := And.left (show _ ∧ True from hP)
        intro H locs ls hR hl
        have hat := mj_at.own hble rfl (hR.1 q _ hq)
        exact va_zald hx hb hK (mj_sg hat) 0 t0 rfl ht0 hin hdg (k H locs ls hR hl)
      · cases hs
    · cases hs
  case laload  =>
    simp only [Bool.and_eq_true, beq_iff_eq, decide_eq_true_eq] at hok
    obtain ⟨rfl, hty⟩ := hok
    obtain ⟨t0, ht0⟩ := mj_tyAt (cT := cT) hty
    split at hs
    · rename_i x q r
      split at hs
      · rename_i N f hq hble
        cases hs
        have hin : vp_in x N := And.left (show _ ∧ True from hP)
        intro H locs ls hR hl
        have hat := mj_at.own hble rfl (hR.1 q _ hq)
        exact va_lald hx hb hK (mj_sg hat) 0 t0 rfl ht0 hin hdg (k H locs ls hR hl)
      · cases hs
    · cases hs
  case iastore  =>
    simp only [Bool.and_eq_true, beq_iff_eq, decide_eq_true_eq] at hok
    obtain ⟨rfl, hty⟩ := hok
    obtain ⟨t0, ht0⟩ := mj_tyAt (cT := cT) hty
    split at hs
    · rename_i z x q r
      split at hs
      · rename_i N f hq hble
        cases hs
        have hin : vp_in x N := And.left (show _ ∧ True from hP)
        intro H locs ls hR hl
        have hat := mj_at.own hble rfl (hR.1 q _ hq)
        refine W.iast hx hb hat ((hK.2 t0 _ ht0).1 N (fun j => .int (f j))) (fun q => by cases q) (by show ¬ (x < 0 ∨ (arrV _ _ _).slots.size ≤ _); rw [arrV_size]; exact hin) rfl rfl hdg fun H1 e1 e2 e3 => ?_
        exact k H1 _ ls (hR.put hσ hble (by
            show H1[σ q]? = some (vp_cell _ _)
            rw [e1]
            exact congrArg some mj_cellS) e2 e3) hl
      · cases hs
    · cases hs
  case bastore  =>
    simp only [Bool.and_eq_true, beq_iff_eq, decide_eq_true_eq] at hok
    obtain ⟨rfl, hty⟩ := hok
    obtain ⟨t0, ht0⟩ := mj_tyAt (cT := cT) hty
    split at hs
    · rename_i z x q r
      split at hs
      · rename_i N f hq hble
        cases hs
        have hin : vp_in x N := And.left (show _ ∧ True from hP)
        intro H locs ls hR hl
        have hat := mj_at.own hble rfl (hR.1 q _ hq)
        refine W.zast hx hb hat ((hK.2 t0 _ ht0).1 N (fun j => .int (f j))) (fun q => by cases q) (by show ¬ (x < 0 ∨ (arrV _ _ _).slots.size ≤ _); rw [arrV_size]; exact hin) rfl rfl hdg fun H1 e1 e2 e3 => ?_
        exact k H1 _ ls (hR.put hσ hble (by
            show H1[σ q]? = some (vp_cell _ _)
            rw [e1]
            exact congrArg some mj_cellS) e2 e3) hl
      · cases hs
    · cases hs
  case lastore  =>
    simp only [Bool.and_eq_true, beq_iff_eq, decide_eq_true_eq] at hok
    obtain ⟨rfl, hty⟩ := hok
    obtain ⟨t0, ht0⟩ := mj_tyAt (cT := cT) hty
    split at hs
    · rename_i z x q r
      split at hs
      · rename_i N f hq hble
        cases hs
        have hin : vp_in x N := And.left (show _ ∧ True from hP)
        intro H locs ls hR hl
        have hat := mj_at.own hble rfl (hR.1 q _ hq)
        refine W.last hx hb hat ((hK.2 t0 _ ht0).1 N (fun j => .long (f j))) (fun q => by cases q) (by show ¬ (x < 0 ∨ (arrV _ _ _).slots.size ≤ _); rw [arrV_size]; exact hin) rfl rfl hdg fun H1 e1 e2 e3 => ?_
        exact k H1 _ ls (hR.put hσ hble (by
            show H1[σ q]? = some (vp_cell _ _)
            rw [e1]
            exact congrArg some mj_cellL) e2 e3) hl
      · cases hs
    · cases hs
  case arraylength  =>
    simp only [Bool.and_eq_true, beq_iff_eq, decide_eq_true_eq] at hok
    obtain ⟨rfl, hty⟩ := hok
    obtain ⟨t0, ht0⟩ := mj_tyAt (cT := cT) hty
    split at hs
    · rename_i q r
      split at hs
      · rename_i N f hq
        cases hs
        intro H locs ls hR hl
        have hat := hR.1 q _ hq
        unfold mj_at at hat
        split at hat
        · exact va_alen hx hb hK (mj_sg (hat.1 rfl)) 0 t0 rfl ht0 rfl hdg (k H locs ls hR hl)
        · obtain ⟨cell, h1, h2, h3, h4, h5, h6, h7⟩ := hat
          exact W.alen (n := Int32.ofNat N) hx hb h1 h2 h5 rfl rfl hdg (k H locs ls hR hl)
      · cases hs
    · cases hs
  case getstatic idx =>
    simp only [Bool.and_eq_true, beq_iff_eq] at hok
    obtain ⟨rfl, hok⟩ := hok
    cases hs
    split at hok
    · rename_i C n dd hq
      have hz := hZ a _ hq
      intro H locs ls hR hl
      split at hok
      · exact va_gets hx hb hz hR.2.2.2 hown (hts _ (mj_in (of_decide_eq_true hok) rfl)) (fun _ h => h) hdg (k H locs ls hR hl)
      · obtain ⟨z, hz1, hz2⟩ := List.any_eq_true.mp hok
        split at hz2
        · rename_i o i C' n' d' host
          obtain ⟨e1, e2, e3, e4, e5⟩ := of_decide_eq_true hz2
          subst e1; subst e2; subst e3; subst e4; subst e5
          exact va_getsN hx hb hz hR.2.2.2 hown (va_Nw.use rfl (hN _ hz1)) (fun _ h => h) hdg (k H locs ls hR hl)
        · cases hz2
    · cases hok
  case getfield idx =>
    simp only [Bool.and_eq_true, beq_iff_eq] at hok
    obtain ⟨rfl, hok⟩ := hok
    split at hok
    · rename_i C T N hc
      simp only [Bool.and_eq_true, decide_eq_true_eq] at hok
      obtain ⟨hbN, hw⟩ := hok
      split at hs
      · rename_i q r
        split at hs
        · rename_i ci fs hq hble
          split at hs
          · rename_i w' hci hfs
            cases hs
            have e1 : ci = a := Nat.eq_of_beq_eq_true hci
            subst e1
            intro H locs ls hR hl
            have hat := mj_at.own hble (mj_notJunk hc) (hR.1 q _ hq)
            exact va_get hx hb hts (mj_cls hc).1 hown hK (mj_sg hat) 0 rfl hc b hbN (hts _ (mj_in hw rfl)) (fun x hx => hx) (by rw [List.getElem?_map, hfs]; rfl) hdg (k H locs ls hR hl)
          · cases hs
        · cases hs
      · cases hs
    · cases hok
  case putfield idx =>
    simp only [Bool.and_eq_true, beq_iff_eq] at hok
    obtain ⟨rfl, hok⟩ := hok
    split at hok
    · rename_i C T N hc
      simp only [Bool.and_eq_true, decide_eq_true_eq] at hok
      obtain ⟨⟨⟨hbN, hw⟩, hfi⟩, hv⟩ := hok
      have hfin : (T b).2.2.2 = true → meth.name = "<init>" ∧ mM_own M = (T b).1 := fun hF => by
        rw [hF] at hfi
        simp only [Bool.not_true, Bool.false_or, Bool.and_eq_true, decide_eq_true_eq] at hfi
        exact ⟨hini hfi.1, hfi.2⟩
      split at hs
      · rename_i w' q r
        split at hs
        · rename_i ci fs hq hble
          split at hs
          · rename_i n0 y hci hl0
            cases hs
            have e1 : ci = a := Nat.eq_of_beq_eq_true hci
            subst e1
            intro H locs ls hR hl
            have hat := mj_at.own hble (mj_notJunk hc) (hR.1 q _ hq)
            split at hv
            · rename_i hd
              exact mw_put hx hb hts (mj_cls hc).1 (mj_fty T) (mj_cls hc).2.1 (mj_cls hc).2.2 hown hK hat hc b hbN (hts _ (mj_in hw rfl)) hfin hd rfl rfl (by rw [List.length_map]; exact Nat.blt_eq.mp hl0) hdg fun H1 j e1 e2 e3 => k H1 _ ls (hR.put hσ hble (by simpa only [mj_cc, List.map_set] using e1) e2 e3) hl
            · rename_i hv2 _
              cases hv2
            · rename_i hv2 _
              cases hv2
            · cases hv
          · rename_i y hci hl0
            cases hs
            have e1 : ci = a := Nat.eq_of_beq_eq_true hci
            subst e1
            intro H locs ls hR hl
            have hat := mj_at.own hble (mj_notJunk hc) (hR.1 q _ hq)
            split at hv
            · rename_i hv2 _
              cases hv2
            · rename_i hd
              exact mw_put hx hb hts (mj_cls hc).1 (mj_fty T) (mj_cls hc).2.1 (mj_cls hc).2.2 hown hK hat hc b hbN (hts _ (mj_in hw rfl)) hfin hd rfl rfl (by rw [List.length_map]; exact Nat.blt_eq.mp hl0) hdg fun H1 j e1 e2 e3 => k H1 _ ls (hR.put hσ hble (by simpa only [mj_cc, List.map_set] using e1) e2 e3) hl
            · rename_i hd
              exact mw_put hx hb hts (mj_cls hc).1 (mj_fty T) (mj_cls hc).2.1 (mj_cls hc).2.2 hown hK hat hc b hbN (hts _ (mj_in hw rfl)) hfin hd rfl rfl (by rw [List.length_map]; exact Nat.blt_eq.mp hl0) hdg fun H1 j e1 e2 e3 => k H1 _ ls (hR.put hσ hble (by simpa only [mj_cc, List.map_set] using e1) e2 e3) hl
            · cases hv
          · cases hs
        · cases hs
      · cases hs
    · cases hok
  case newarray ty =>
    simp only [Bool.and_eq_true, beq_iff_eq, decide_eq_true_eq] at hok
    obtain ⟨rfl, hty⟩ := hok
    obtain ⟨t0, ht0⟩ := mj_tyAt (cT := cT) hty
    split at hs
    · rename_i n r
      cases hs
      obtain ⟨hn, hN1, hc1, hs1⟩ := And.left (show _ ∧ True from hP)
      intro H locs ls hR hl
      refine va_newaK (atype := .int) hx hb (hts _ (mj_arr hty)) rfl hdg rfl hn rfl (by show _ * 4 ≤ 536870912; omega) (Nat.le_trans hc1 hRC) (Nat.le_trans hs1 hRS) rfl fun H1 cA e1 z1 o1 hAr hNm => ?_
      have hcA : cT .int = cA := by
        have h1 : s.vm.findClass ("[" ++ (FieldType.int).toString) = some (cT .int) := (hK.2 t0 _ ht0).2
        exact Option.some.inj (h1.symm.trans hNm)
      obtain ⟨hR', hs'⟩ := hR.push (H1 := H1) (c := .inl (.int, n.toNatClampNeg, .inl (fun _ => 0))) hσ (by rw [← hcA] at e1; exact e1) z1 o1
      have k' := k H1 locs ls hR' hl
      have e9 : mj_cv σ (.ref h.length) = .ref H.size := congrArg Value.ref hs'
      simp only [List.map_cons, e9] at k'
      exact k'
    · rename_i n r
      cases hs
      obtain ⟨hn, hN1, hc1, hs1⟩ := And.left (show _ ∧ True from hP)
      intro H locs ls hR hl
      refine va_newaK (atype := .boolean) hx hb (hts _ (mj_arr hty)) rfl hdg rfl hn rfl (by show _ * 1 ≤ 536870912; omega) (Nat.le_trans hc1 hRC) (Nat.le_trans hs1 hRS) rfl fun H1 cA e1 z1 o1 hAr hNm => ?_
      have hcA : cT .boolean = cA := by
        have h1 : s.vm.findClass ("[" ++ (FieldType.boolean).toString) = some (cT .boolean) := (hK.2 t0 _ ht0).2
        exact Option.some.inj (h1.symm.trans hNm)
      obtain ⟨hR', hs'⟩ := hR.push (H1 := H1) (c := .inl (.boolean, n.toNatClampNeg, .inl (fun _ => 0))) hσ (by rw [← hcA] at e1; exact e1) z1 o1
      have k' := k H1 locs ls hR' hl
      have e9 : mj_cv σ (.ref h.length) = .ref H.size := congrArg Value.ref hs'
      simp only [List.map_cons, e9] at k'
      exact k'
    · rename_i n r
      cases hs
      obtain ⟨hn, hN1, hc1, hs1⟩ := And.left (show _ ∧ True from hP)
      intro H locs ls hR hl
      refine va_newaK (atype := .long) hx hb (hts _ (mj_arr hty)) rfl hdg rfl hn rfl (by show _ * 8 ≤ 536870912; omega) (Nat.le_trans hc1 hRC) (Nat.le_trans hs1 hRS) rfl fun H1 cA e1 z1 o1 hAr hNm => ?_
      have hcA : cT .long = cA := by
        have h1 : s.vm.findClass ("[" ++ (FieldType.long).toString) = some (cT .long) := (hK.2 t0 _ ht0).2
        exact Option.some.inj (h1.symm.trans hNm)
      obtain ⟨hR', hs'⟩ := hR.push (H1 := H1) (c := .inl (.long, n.toNatClampNeg, .inr (.inl (fun _ => 0)))) hσ (by rw [← hcA] at e1; exact e1) z1 o1
      have k' := k H1 locs ls hR' hl
      have e9 : mj_cv σ (.ref h.length) = .ref H.size := congrArg Value.ref hs'
      simp only [List.map_cons, e9] at k'
      exact k'
    · cases hs
  case new idx =>
    simp only [Bool.and_eq_true, beq_iff_eq] at hok
    obtain ⟨rfl, hok⟩ := hok
    split at hok
    · rename_i C T N fs p1 p2 hc hdf hnp
      simp only [Bool.and_eq_true, decide_eq_true_eq] at hok
      obtain ⟨⟨⟨⟨hw, hi1⟩, hi2⟩, hlen⟩, hall⟩ := hok
      rw [hdf] at hs
      cases hs
      obtain ⟨hc1, hs1⟩ := And.left (show _ ∧ True from hP)
      intro H locs ls hR hl
      have hKn := hK.1 a _ hc
      rw [hlen] at hs1
      refine W.newcK hx hb hown (hts _ (mj_in hw rfl)) (hts _ (mj_in hi1 rfl)) (hts _ (mj_in hi2 rfl)) rfl hdg (Nat.le_trans hc1 hRC) (Nat.le_trans hs1 hRS) hKn.2.1 rfl fun H1 kC hkC e1 z1 o1 => ?_
      have hcell : va_at D mj_cl (H.size, mj_cc σ cT (.inr (a, fs))) H1 := by
        refine ⟨_, hc, (u_born (mj_fty T) hts (mj_cls hc).1 hKn hkC e1 (mj_cls hc).2.1).to fun j hj => ?_⟩
        have h1 := of_decide_eq_true (List.all_eq_true.mp hall j (List.mem_range.mpr hj))
        rw [(mj_cls hc).2.1 j hj] at h1
        have h2 : fs[j]? = some (defaultValue (mj_fty T j)) := h1.symm
        show defaultValue (mj_fty T j) = (fs.map (mj_cv σ)).getD j .null
        rw [List.getD_eq_getElem?_getD, List.getElem?_map, h2]
        show _ = mj_cv σ (defaultValue (mj_fty T j))
        cases mj_fty T j <;> rfl
      obtain ⟨hR', hs'⟩ := hR.push (H1 := H1) hσ hcell z1 o1
      have k' := k H1 locs ls hR' hl
      have e9 : mj_cv σ (.ref h.length) = .ref H.size := congrArg Value.ref hs'
      simp only [List.map_cons, e9, hlen] at k'
      exact k'
    · rename_i hdf
      rw [hdf] at hs
      cases hs
    · cases hok
/-- along a run -/
theorem mj_simR {M : mj_M} {κ : mj_K} {RC RS dd : Nat} (hX : mj_X M RC RS dd κ) (hok : mj_okM M = true) (hfl : mj_okF M = true) {stop : Nat} : ∀ (n : Nat) (ds : List Bool) (g g' : mj_S) (P : Prop), mj_run (mj_cd M) RC RS stop n ds g = some (P, g') → P → mj_G κ g' → mj_G κ g := by
  intro n
  induction n with
  | zero => intro ds g g' P h; cases h
  | succ n ih =>
    intro ds g g' P h hP k
    have key : ∀ (i : mj_I) (d : Bool) (p : Option Prop) (g1 : mj_S), mj_cd M g.1 = some i → mj_step RC RS i d g = some (p, g1) → mj_and p True → mj_G κ g1 → mj_G κ g := fun i d p g1 hi hs hp k1 => by
      obtain ⟨pc, L, st, hh, cc, cs⟩ := g
      exact mj_sim hX (mj_okM_at hok hi) (mj_okF_at hfl hi) hs hp k1
    have sp : ∀ (p : Option Prop) (q : Prop), mj_and p q → mj_and p True ∧ q := fun p q h => by
      cases p with
      | none => exact ⟨trivial, h⟩
      | some p => exact ⟨⟨h.1, trivial⟩, h.2⟩
    unfold mj_run at h
    split at h
    · cases h
    · rename_i i hi
      split at h
      · cases h
      · split at h
        · cases h
        · rename_i p g1 hs
          split at h
          · cases h
            exact key i _ p _ hi hs hP k
          · split at h
            · cases h
            · rename_i q g2 hr
              cases h
              obtain ⟨h1, h2⟩ := sp p q hP
              exact key i _ p g1 hi hs h1 (ih _ _ _ _ hr h2 k)
      · split at h
        · cases h
        · rename_i p g1 hs
          split at h
          · cases h
            exact key i _ p _ hi hs hP k
          · split at h
            · cases h
            · rename_i q g2 hr
              cases h
              obtain ⟨h1, h2⟩ := sp p q hP
              exact key i _ p g1 hi hs h1 (ih _ _ _ _ hr h2 k)
