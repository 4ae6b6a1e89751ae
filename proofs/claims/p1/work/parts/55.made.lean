/-! clone of a row of ints, a cast of it -/
theorem mj_clW : Cond.sameMethod "[I" "java/lang/Object" "clone" "()Ljava/lang/Object;" ∈ mj_tbl ∧ Cond.native ⟨"java/lang/Object", "clone", "()Ljava/lang/Object;"⟩ ∈ mj_tbl ∧ Cond.instanceMethod ⟨"java/lang/Object", "clone", "()Ljava/lang/Object;"⟩ ∈ mj_tbl ∧ Cond.selects "[I" ⟨"[I", "clone", "()Ljava/lang/Object;"⟩ ⟨"java/lang/Object", "clone", "()Ljava/lang/Object;"⟩ ∈ mj_tbl ∧ Cond.castable "[I" "java/lang/Cloneable" ∈ mj_nest := ⟨mj_in (p := 954) (by decide +kernel) rfl, mj_in (p := 955) (by decide +kernel) rfl, mj_in (p := 956) (by decide +kernel) rfl, mj_in (p := 957) (by decide +kernel) rfl, by decide +kernel⟩
section CLN
variable {p : Program} {l : Launch} {e : Env} {R : Room} {s : State} {m : MethodId} {args : Array Value} {below : List Frame} {meth : Method} {c : Code} {H : Heap} {locs : List Loc} {cells slots : Nat} {Q : State → Prop}
variable {cc : ByteArray} {pc : Nat} {ls : Array Slot} {rest : List Value} {a : Nat}
theorem mw_clone (hexec : p.tables.exec = Jvm.exec) (hb : c.code = cc) (hml : c.maxLocals = ls.size) {own : String} {index : Nat} (hown : s.vm.findClass own = some m.cls)
    (hlink : (Cond.methodLink own index ⟨"[I", "clone", "()Ljava/lang/Object;"⟩).before args s = true) (hts : ∀ w ∈ mj_tbl, w.before args s = true) (hcl : va_Nw (.castable "[I" "java/lang/Cloneable") s)
    {D : va_G} {cl : List vw_C} {tys : List (ClassId × FieldType)} {cA : ClassId} {N t0 : Nat} {f : Nat → Int32} (hK : va_K D cl tys s) (ht : tys[t0]? = some (cA, .int)) (ha : H[a]? = some (vp_cell cA (N, .inl f)))
    (hframes : 1 ≤ R.frames) (hlocals : (rest.map fun v => v.category).sum + 14 ≤ R.locals) (hcells : cells + 1 ≤ R.cells) (hslots : slots + N ≤ R.slots) (hdg : decode cc pc = .ok (.invokevirtual index, 3))
    (kk : W p l e R s m args below meth c (H.push (vp_cell cA (N, .inl f))) locs (cells + 1) (slots + N) Q (F0 m (pc + 3) ls (.ref H.size :: rest))) : W p l e R s m args below meth c H locs cells slots Q (F0 m pc ls (.ref a :: rest)) := by
  have hsz : (vp_cell cA (N, .inl f)).slots.size = N := arrV_size _ _ _
  have hnm : s.vm.findClass "[I" = some cA := va_nm_int (hK.2 t0 _ ht).2
  obtain ⟨c0, t0', f1, f2, f3⟩ := Cond.castable_spec (va_Nw.use (A := args) rfl hcl)
  cases hnm.symm.trans f1
  intro T hT X
  have hcellT : T.heap[a]? = some (vp_cell cA (N, .inl f)) := by rw [hT]; exact ha
  obtain ⟨-, kA, hkA, comp, hkind⟩ := State.isArrayOf_alike X.warmed.alike ((hK.2 t0 _ ht).1 0 (fun _ => .null))
  obtain ⟨-, kS, hkS, compS, hkindS⟩ := (hK.2 t0 _ ht).1 0 (fun _ => .null)
  obtain ⟨vm', X', st⟩ := X.cloneArray hexec hown hlink (hts _ mj_clW.1) (hts _ mj_clW.2.1) (hts _ mj_clW.2.2.1) (hts _ mj_clW.2.2.2.1) (a := a) (cell := vp_cell cA (N, .inl f)) hcellT (fun k h => by cases h) (fun h => by cases h) hnm f2 f3
    (fun i v hv => by
      have hk' : T.vm.classes[cA]? = some kA := hkA
      have h9 := va_fit (cA := cA) (n := N) (F := fun j => .int (f j)) (ty := .int) (fun _ _ => rfl) i v hv
      have hcl0 : (vp_cell cA (N, .inl f)).cls = cA := rfl
      rw [hcl0]
      simpa [State.fitsSlot, State.slotType?, hk', hkind] using h9)
    (g := F0 m pc ls (.ref a :: rest)) rfl (by rw [hml]) rfl (by rw [hb]; exact hdg) hframes (by show 2 * 0 + _ + 14 ≤ _; omega) hcells (by rw [hsz]; exact hslots) (hloader := Vm.clonesLoader_of_array hkS hkindS)
  rw [hsz] at X'
  obtain ⟨t, b1, b2⟩ := kk ((T.setVm vm').pushCell (vp_cell cA (N, .inl f))) (by rw [← hT]; rfl) X'
  refine ⟨t, st t ?_, b2⟩
  rw [hT]
  exact b1
end CLN
theorem g_clone {M : mj_M} {κ : mj_K} {RC RS dd : Nat} (hX : mj_X M RC RS dd κ) (hA : mj_okA M = true) {pc idx b w q N : Nat} {v : Value} {f : Nat → Int32} {L rest : List Value} {h : mj_H} {cc cs : Nat} (hcd : mj_cd M pc = some (.invokevirtual idx, 3, 1002, b, w, v)) (hlink : lw_tbl[w]? = some (Cond.methodLink (mM_own M) idx ⟨"[I", "clone", "()Ljava/lang/Object;"⟩)) (h0 : h[q]? = some (.inl (.int, N, .inl f))) (b0 : Nat.ble mj_NE q = true) (hw : Nat.ble ((rest.map fun v => v.category).sum) 8 = true) (hr : Nat.ble (cc + 1) RC = true ∧ Nat.ble (cs + N) RS = true ∧ Nat.blt 0 dd = true) (k : mj_G κ (pc + 3, L, .ref h.length :: rest, h ++ [.inl (.int, N, .inl f)], cc + 1, cs + N)) : mj_G κ (pc, L, .ref q :: rest, h, cc, cs) := by
  obtain ⟨p, l, e, R, s, m, args, below, meth, c, Q, σ, D, cT, base⟩ := κ
  obtain ⟨hx, hb, hml, hown, hts, hE, hini, hRC, hRS, hRd, hRl⟩ := hX
  have hdg := mj_dec hA hcd
  have hd : 0 < dd := Nat.blt_eq.mp hr.2.2
  intro H locs ls hR hl
  replace hR : mj_R σ D cT base s h H locs := hR
  obtain ⟨t0, ht0⟩ := mj_tyAt (cT := cT) (ty := .int) (by decide)
  have a0 : H[σ q]? = some (vp_cell (cT .int) (N, .inl f)) := mj_at.own b0 rfl (hR.1 q _ h0)
  have hw8 : ((rest.map (mj_cv σ)).map fun v => v.category).sum ≤ 8 := by rw [mj_catS]; exact Nat.le_of_ble_eq_true hw
  have hpp := hR.push (H1 := H.push (vp_cell (cT .int) (N, .inl f))) (c := .inl (.int, N, .inl f)) hE.2.2.2.2 (by
    show (H.push _)[H.size]? = some (vp_cell _ _)
    rw [Array.getElem?_push_size]
    rfl) (by rw [Array.size_push]) (fun x hx => by rw [Array.getElem?_push, if_neg (Nat.ne_of_lt hx)])
  refine mw_clone hx hb hl.1.symm hown (hts _ (mj_in hlink rfl)) hts (hE.2.1 _ mj_clW.2.2.2.2) hE.1 ht0 a0 (by omega) (by show _ + 14 ≤ R.locals; omega) (Nat.le_trans (Nat.le_of_ble_eq_true hr.1) hRC) (Nat.le_trans (Nat.le_of_ble_eq_true hr.2.1) hRS) hdg ?_
  have k' := k (H.push (vp_cell (cT .int) (N, .inl f))) locs ls hpp.1 hl
  have e9 : mj_cv σ (.ref h.length) = .ref H.size := congrArg Value.ref hpp.2
  simp only [List.map_cons, e9] at k'
  exact k'
theorem g_cast {M : mj_M} {κ : mj_K} {RC RS dd : Nat} (hX : mj_X M RC RS dd κ) (hA : mj_okA M = true) {pc idx a b w k q N : Nat} {v : Value} {f : Nat → Int32} {L rest : List Value} {h : mj_H} {cc cs : Nat} (hcd : mj_cd M pc = some (.checkcast idx, 3, a, b, w, v)) (hlink : lw_tbl[k]? = some (Cond.classLink (mM_own M) idx "[I")) (h0 : h[q]? = some (.inl (.int, N, .inl f))) (b0 : Nat.ble mj_NE q = true) (k : mj_G κ (pc + 3, L, .ref q :: rest, h, cc, cs)) : mj_G κ (pc, L, .ref q :: rest, h, cc, cs) := by
  obtain ⟨p, l, e, R, s, m, args, below, meth, c, Q, σ, D, cT, base⟩ := κ
  obtain ⟨hx, hb, hml, hown, hts, hE, hini, hRC, hRS, hRd, hRl⟩ := hX
  have hdg := mj_dec hA hcd
  intro H locs ls hR hl
  replace hR : mj_R σ D cT base s h H locs := hR
  obtain ⟨t0, ht0⟩ := mj_tyAt (cT := cT) (ty := .int) (by decide)
  have hat := mj_at.own b0 rfl (hR.1 q _ h0)
  exact va_castA hx hb hown (hts _ (mj_in hlink rfl)) (mj_sg hat) 0 rfl (va_nm_int (hE.1.2 t0 _ ht0).2) hdg (k H locs ls hR hl)
theorem r_clone {M : mj_M} {RC RS dd : Nat} (hA : mj_okA M = true) {pc idx i2 a2 b2 w2 b w k2 q N : Nat} {v v3 : Value} {f : Nat → Int32} {L rest : List Value} {h : mj_H} {cc cs : Nat} (hcd : mj_cd M pc = some (.invokevirtual idx, 3, 1002, b, w, v)) (hlink : lw_tbl[w]? = some (Cond.methodLink (mM_own M) idx ⟨"[I", "clone", "()Ljava/lang/Object;"⟩)) (h0 : h[q]? = some (.inl (.int, N, .inl f))) (b0 : Nat.ble mj_NE q = true) (hcd2 : mj_cd M (pc + 3) = some (.checkcast i2, 3, a2, b2, w2, v3)) (hlink2 : lw_tbl[k2]? = some (Cond.classLink (mM_own M) i2 "[I")) (hn : Nat.ble mj_NE h.length = true) (hw : Nat.ble ((rest.map fun v => v.category).sum) 8 = true) (hr : Nat.ble (cc + 1) RC = true ∧ Nat.ble (cs + N) RS = true ∧ Nat.blt 0 dd = true) : mj_Rc M RC RS dd (pc, L, .ref q :: rest, h, cc, cs) (pc + 3 + 3, L, .ref h.length :: rest, h ++ [.inl (.int, N, .inl f)], cc + 1, cs + N) := fun _ hX k => g_clone hX hA hcd hlink h0 b0 hw hr (g_cast hX hA hcd2 hlink2 (List.getElem?_concat_length) hn k)
/-! THE REFERENCE: lands that are made -/
abbrev zO (x : Nat → Int64) : mj_Cl := .inl (.long, 1, .inr (.inl x))
abbrev zI (f : Nat → Int32) : mj_Cl := mj_ia 144 f
abbrev zB (f : Nat → Int32) : mj_Cl := .inl (.boolean, 144, .inl f)
abbrev zL (q : Nat) : mj_Cl := .inr (9, [.int (iI 12), .int (iI 12), .ref q])
section REF10
variable {xs : Nat → Int32} {L : Nat} {A : Nat → Nat → Int32} {V : Nat → Int32} {t b : Int32} {ld : Nat} {f g : Nat → Int32} {Z : mj_H} {o : Nat → Int64}
theorem c_MLinit_2_36 {z0 z1 : mj_Cl} {w h : Int32} : mj_Ct m_ML_init [.ref (mj_NE + 37), .int w, .int h, .ref (mj_NE + 36)] (Wd xs L A V (mY t b ld f [z0, z1, .inr (9, [.int 0, .int 0, .null])])) none (Wd xs L A V (mY t b ld f [z0, z1, .inr (9, [.int w, .int h, .ref (mj_NE + 36)])])) 0 0 1 := by
  have t1 := r_to (RC := 0) (RS := 0) (dd := 1) (g := (0, [.ref (mj_NE + 37), .int w, .int h, .ref (mj_NE + 36)], [], Wd xs L A V (mY t b ld f [z0, z1, .inr (9, [.int 0, .int 0, .null])]), 0, 0)) (g' := (1, [.ref (mj_NE + 37), .int w, .int h, .ref (mj_NE + 36)], [.ref (mj_NE + 37)], Wd xs L A V (mY t b ld f [z0, z1, .inr (9, [.int 0, .int 0, .null])]), 0, 0)) ok_ML_init 9999 [] rfl trivial
  have t2 := r_tr t1 (r_O ok_ML_init rfl rfl rfl)
  exact ct_of ok_ML_init rfl (r_tr t2 (r_to ok_ML_init 9999 [] rfl trivial)) rfl rfl rfl rfl rfl
theorem c_MLinit_3_37 {z0 z1 z2 : mj_Cl} {w h : Int32} : mj_Ct m_ML_init [.ref (mj_NE + 38), .int w, .int h, .ref (mj_NE + 37)] (Wd xs L A V (mY t b ld f [z0, z1, z2, .inr (9, [.int 0, .int 0, .null])])) none (Wd xs L A V (mY t b ld f [z0, z1, z2, .inr (9, [.int w, .int h, .ref (mj_NE + 37)])])) 0 0 1 := by
  have t1 := r_to (RC := 0) (RS := 0) (dd := 1) (g := (0, [.ref (mj_NE + 38), .int w, .int h, .ref (mj_NE + 37)], [], Wd xs L A V (mY t b ld f [z0, z1, z2, .inr (9, [.int 0, .int 0, .null])]), 0, 0)) (g' := (1, [.ref (mj_NE + 38), .int w, .int h, .ref (mj_NE + 37)], [.ref (mj_NE + 38)], Wd xs L A V (mY t b ld f [z0, z1, z2, .inr (9, [.int 0, .int 0, .null])]), 0, 0)) ok_ML_init 9999 [] rfl trivial
  have t2 := r_tr t1 (r_O ok_ML_init rfl rfl rfl)
  exact ct_of ok_ML_init rfl (r_tr t2 (r_to ok_ML_init 9999 [] rfl trivial)) rfl rfl rfl rfl rfl
theorem c_MLinit_3_36 {z0 z1 z2 : mj_Cl} {w h : Int32} : mj_Ct m_ML_init [.ref (mj_NE + 38), .int w, .int h, .ref (mj_NE + 36)] (Wd xs L A V (mY t b ld f [z0, z1, z2, .inr (9, [.int 0, .int 0, .null])])) none (Wd xs L A V (mY t b ld f [z0, z1, z2, .inr (9, [.int w, .int h, .ref (mj_NE + 36)])])) 0 0 1 := by
  have t1 := r_to (RC := 0) (RS := 0) (dd := 1) (g := (0, [.ref (mj_NE + 38), .int w, .int h, .ref (mj_NE + 36)], [], Wd xs L A V (mY t b ld f [z0, z1, z2, .inr (9, [.int 0, .int 0, .null])]), 0, 0)) (g' := (1, [.ref (mj_NE + 38), .int w, .int h, .ref (mj_NE + 36)], [.ref (mj_NE + 38)], Wd xs L A V (mY t b ld f [z0, z1, z2, .inr (9, [.int 0, .int 0, .null])]), 0, 0)) ok_ML_init 9999 [] rfl trivial
  have t2 := r_tr t1 (r_O ok_ML_init rfl rfl rfl)
  exact ct_of ok_ML_init rfl (r_tr t2 (r_to ok_ML_init 9999 [] rfl trivial)) rfl rfl rfl rfl rfl
theorem c_MLinit_4_38 {z0 z1 z2 z3 : mj_Cl} {w h : Int32} : mj_Ct m_ML_init [.ref (mj_NE + 39), .int w, .int h, .ref (mj_NE + 38)] (Wd xs L A V (mY t b ld f [z0, z1, z2, z3, .inr (9, [.int 0, .int 0, .null])])) none (Wd xs L A V (mY t b ld f [z0, z1, z2, z3, .inr (9, [.int w, .int h, .ref (mj_NE + 38)])])) 0 0 1 := by
  have t1 := r_to (RC := 0) (RS := 0) (dd := 1) (g := (0, [.ref (mj_NE + 39), .int w, .int h, .ref (mj_NE + 38)], [], Wd xs L A V (mY t b ld f [z0, z1, z2, z3, .inr (9, [.int 0, .int 0, .null])]), 0, 0)) (g' := (1, [.ref (mj_NE + 39), .int w, .int h, .ref (mj_NE + 38)], [.ref (mj_NE + 39)], Wd xs L A V (mY t b ld f [z0, z1, z2, z3, .inr (9, [.int 0, .int 0, .null])]), 0, 0)) ok_ML_init 9999 [] rfl trivial
  have t2 := r_tr t1 (r_O ok_ML_init rfl rfl rfl)
  exact ct_of ok_ML_init rfl (r_tr t2 (r_to ok_ML_init 9999 [] rfl trivial)) rfl rfl rfl rfl rfl
theorem c_ML_with1 {i : Nat} {z : Int} (hi : i < 144) : mj_Ct m_ML_with [.ref (mj_NE + 33), .int (iI (i : Int)), .int (iI z)] (Wd xs L A V (mY t b ld f [zO o])) (some (.ref (mj_NE + 37))) (Wd xs L A V (mY t b ld f [zO o, zI (upd f i (iI z)), zL (mj_NE + 36)])) 2 147 2 := by
  have hc : (iI (i : Int)).toNatClampNeg = i := cl_nat (by omega)
  have t1 := r_to (RC := 2) (RS := 147) (dd := 2) (g := (0, [.ref (mj_NE + 33), .int (iI (i : Int)), .int (iI z), mj_u], [], Wd xs L A V (mY t b ld f [zO o]), 0, 0)) (g' := (4, [.ref (mj_NE + 33), .int (iI (i : Int)), .int (iI z), mj_u], [.ref (mj_NE + 34)], Wd xs L A V (mY t b ld f [zO o]), 0, 0)) ok_ML_with 4 [] rfl trivial
  have t2 : mj_Rc m_ML_with 2 147 2 (4, [.ref (mj_NE + 33), .int (iI (i : Int)), .int (iI z), mj_u], [.ref (mj_NE + 34)], Wd xs L A V (mY t b ld f [zO o]), 0, 0) (10, [.ref (mj_NE + 33), .int (iI (i : Int)), .int (iI z), mj_u], [.ref (mj_NE + 36)], Wd xs L A V (mY t b ld f [zO o, zI f]), 1, 144) := r_clone ok_ML_with (k2 := 959) rfl (by decide +kernel) rfl rfl rfl (by decide +kernel) rfl rfl ⟨rfl, rfl, rfl⟩
  have t3 : mj_Rc m_ML_with 2 147 2 (10, [.ref (mj_NE + 33), .int (iI (i : Int)), .int (iI z), mj_u], [.ref (mj_NE + 36)], Wd xs L A V (mY t b ld f [zO o, zI f]), 1, 144) (15, [.ref (mj_NE + 33), .int (iI (i : Int)), .int (iI z), .ref (mj_NE + 36)], [], Wd xs L A V (mY t b ld f [zO o, zI (upd f (iI (i : Int)).toNatClampNeg (iI z))]), 1, 144) := r_to ok_ML_with 15 [] rfl ⟨in_nat (by omega) (by omega), trivial⟩
  rw [hc] at t3
  have t4 : mj_Rc m_ML_with 2 147 2 (15, [.ref (mj_NE + 33), .int (iI (i : Int)), .int (iI z), .ref (mj_NE + 36)], [], Wd xs L A V (mY t b ld f [zO o, zI (upd f i (iI z))]), 1, 144) (28, [.ref (mj_NE + 33), .int (iI (i : Int)), .int (iI z), .ref (mj_NE + 36)], [.ref (mj_NE + 36), .int (iI 12), .int (iI 12), .ref (mj_NE + 37), .ref (mj_NE + 37)], Wd xs L A V (mY t b ld f [zO o, zI (upd f i (iI z)), .inr (9, [.int 0, .int 0, .null])]), 2, 147) := r_to ok_ML_with 9999 [] rfl ⟨⟨by decide, by decide⟩, trivial⟩
  have t5 := r_tr (r_tr (r_tr (r_tr t1 t2) t3) t4) (q_I ok_ML_with ok_ML_init in_ML_init (c_MLinit_2_36) rfl rfl rfl rfl ⟨rfl, rfl, rfl⟩)
  exact ct_of ok_ML_with rfl t5 rfl rfl rfl rfl rfl
theorem c_ML_with2 {i : Nat} {z : Int} (hi : i < 144) : mj_Ct m_ML_with [.ref (mj_NE + 33), .int (iI (i : Int)), .int (iI z)] (Wd xs L A V (mY t b ld f [zO o, zI g])) (some (.ref (mj_NE + 38))) (Wd xs L A V (mY t b ld f [zO o, zI g, zI (upd f i (iI z)), zL (mj_NE + 37)])) 2 147 2 := by
  have hc : (iI (i : Int)).toNatClampNeg = i := cl_nat (by omega)
  have t1 := r_to (RC := 2) (RS := 147) (dd := 2) (g := (0, [.ref (mj_NE + 33), .int (iI (i : Int)), .int (iI z), mj_u], [], Wd xs L A V (mY t b ld f [zO o, zI g]), 0, 0)) (g' := (4, [.ref (mj_NE + 33), .int (iI (i : Int)), .int (iI z), mj_u], [.ref (mj_NE + 34)], Wd xs L A V (mY t b ld f [zO o, zI g]), 0, 0)) ok_ML_with 4 [] rfl trivial
  have t2 : mj_Rc m_ML_with 2 147 2 (4, [.ref (mj_NE + 33), .int (iI (i : Int)), .int (iI z), mj_u], [.ref (mj_NE + 34)], Wd xs L A V (mY t b ld f [zO o, zI g]), 0, 0) (10, [.ref (mj_NE + 33), .int (iI (i : Int)), .int (iI z), mj_u], [.ref (mj_NE + 37)], Wd xs L A V (mY t b ld f [zO o, zI g, zI f]), 1, 144) := r_clone ok_ML_with (k2 := 959) rfl (by decide +kernel) rfl rfl rfl (by decide +kernel) rfl rfl ⟨rfl, rfl, rfl⟩
  have t3 : mj_Rc m_ML_with 2 147 2 (10, [.ref (mj_NE + 33), .int (iI (i : Int)), .int (iI z), mj_u], [.ref (mj_NE + 37)], Wd xs L A V (mY t b ld f [zO o, zI g, zI f]), 1, 144) (15, [.ref (mj_NE + 33), .int (iI (i : Int)), .int (iI z), .ref (mj_NE + 37)], [], Wd xs L A V (mY t b ld f [zO o, zI g, zI (upd f (iI (i : Int)).toNatClampNeg (iI z))]), 1, 144) := r_to ok_ML_with 15 [] rfl ⟨in_nat (by omega) (by omega), trivial⟩
  rw [hc] at t3
  have t4 : mj_Rc m_ML_with 2 147 2 (15, [.ref (mj_NE + 33), .int (iI (i : Int)), .int (iI z), .ref (mj_NE + 37)], [], Wd xs L A V (mY t b ld f [zO o, zI g, zI (upd f i (iI z))]), 1, 144) (28, [.ref (mj_NE + 33), .int (iI (i : Int)), .int (iI z), .ref (mj_NE + 37)], [.ref (mj_NE + 37), .int (iI 12), .int (iI 12), .ref (mj_NE + 38), .ref (mj_NE + 38)], Wd xs L A V (mY t b ld f [zO o, zI g, zI (upd f i (iI z)), .inr (9, [.int 0, .int 0, .null])]), 2, 147) := r_to ok_ML_with 9999 [] rfl ⟨⟨by decide, by decide⟩, trivial⟩
  have t5 := r_tr (r_tr (r_tr (r_tr t1 t2) t3) t4) (q_I ok_ML_with ok_ML_init in_ML_init (c_MLinit_3_37) rfl rfl rfl rfl ⟨rfl, rfl, rfl⟩)
  exact ct_of ok_ML_with rfl t5 rfl rfl rfl rfl rfl
end REF10
