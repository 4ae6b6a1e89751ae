/-! System.arraycopy of all of one row of ints into another -/
theorem mj_acpW : Cond.native arraycopyName ∈ mj_tbl ∧ Cond.static arraycopyName ∈ mj_tbl ∧ Cond.initialized "java/lang/System" ∈ mj_tbl := ⟨mj_in (p := mj_acp.1) (by decide +kernel) rfl, mj_in (p := mj_acp.2.1) (by decide +kernel) rfl, mj_in (p := mj_acp.2.2) (by decide +kernel) rfl⟩
theorem g_acp {M : mj_M} {κ : mj_K} {RC RS dd : Nat} (hX : mj_X M RC RS dd κ) (hA : mj_okA M = true) {pc idx b w q0 q1 : Nat} {v : Value} {f g : Nat → Int32} {L rest : List Value} {h : mj_H} {cc cs : Nat} (hcd : mj_cd M pc = some (.invokestatic idx, 3, 1001, b, w, v)) (h0 : h[q0]? = some (.inl (.int, 256, .inl f))) (h1 : h[q1]? = some (.inl (.int, 256, .inl g))) (b0 : Nat.ble mj_NE q0 = true) (b1 : Nat.ble mj_NE q1 = true) (hw : Nat.ble ((rest.map fun v => v.category).sum) 8 = true) (hd : Nat.blt 1 dd = true) (k : mj_G κ (pc + 3, L, rest, h.set q1 (.inl (.int, 256, .inl (va_cpy f g 0 0 256))), cc, cs)) : mj_G κ (pc, L, .int (iI 256) :: .int (iI 0) :: .ref q1 :: .int (iI 0) :: .ref q0 :: rest, h, cc, cs) := by
  obtain ⟨p, l, e, R, s, m, args, below, meth, c, Q, σ, D, cT, base⟩ := κ
  obtain ⟨hx, hb, hml, hown, hts, hE, hini, hRC, hRS, hRd, hRl⟩ := hX
  have hkat := mj_okA_K hA hcd
  have hdg := mj_dec hA hcd
  have hlink : lw_tbl[w]? = some (Cond.methodLink (mM_own M) idx arraycopyName) := of_decide_eq_true hkat
  intro H locs ls hR hl T hT X
  have hσ := hE.2.2.2.2
  obtain ⟨t0, ht0⟩ := mj_tyAt (cT := cT) (ty := .int) (by decide)
  have a0 : H[σ q0]? = some (vp_cell (cT .int) (256, .inl f)) := mj_at.own b0 rfl (hR.1 q0 _ h0)
  have a1 : H[σ q1]? = some (vp_cell (cT .int) (256, .inl g)) := mj_at.own b1 rfl (hR.1 q1 _ h1)
  obtain ⟨-, k0, hk0, m0, hkk0⟩ := (hE.1.2 t0 _ ht0).1 256 (fun j => .int (f j))
  obtain ⟨-, k1, hk1, m1, hkk1⟩ := (hE.1.2 t0 _ ht0).1 256 (fun j => .int (g j))
  have z256 : (iI 256).toNatClampNeg = 256 := by decide +kernel
  have z0 : (iI 0).toNatClampNeg = 0 := by decide +kernel
  have i256 : (iI 256).toInt = 256 := by decide +kernel
  have i0 : (iI 0).toInt = 0 := by decide +kernel
  have n0 : ¬ iI 0 < 0 := by decide +kernel
  have n256 : ¬ iI 256 < 0 := by decide +kernel
  have nf : nativeFrameWords "java/lang/System" "arraycopy" 5 ≤ 60 := by decide +kernel
  have hdd : 1 < dd := Nat.blt_eq.mp hd
  have hw8 : ((rest.map (mj_cv σ)).map fun v => v.category).sum ≤ 8 := by rw [mj_catS]; exact Nat.le_of_ble_eq_true hw
  obtain ⟨vm', X', step⟩ := X.arraycopy hx hown (hts _ (mj_in hlink rfl)) (hts _ mj_acpW.1) (hts _ mj_acpW.2.1) (hts _ mj_acpW.2.2) (src := σ q0) (dst := σ q1) (cs := vp_cell (cT .int) (256, .inl f)) (cd := vp_cell (cT .int) (256, .inl g)) (srcPos := iI 0) (destPos := iI 0) (n := iI 256) (by rw [hT]; exact a0) (by rw [hT]; exact a1)
    (fun _ q => by cases q) (fun _ q => by cases q) (fun q => by cases q) (fun q => by cases q) hk0 hk1 hkk0 hkk1 rfl n0 n0 n256
    (by rw [i0, i256]; show ¬ _ > ((arrV (cT .int) 256 (fun j => .int (f j))).slots.size : Int); rw [arrV_size]; decide)
    (by rw [i0, i256]; show ¬ _ > ((arrV (cT .int) 256 (fun j => .int (g j))).slots.size : Int); rw [arrV_size]; decide)
    (fun vm₁ _ i hi => by
      rw [z256] at hi
      have e : (vp_cell (cT .int) (256, .inl f)).slots.getD ((iI 0).toNatClampNeg + i) .null = .int (f ((iI 0).toNatClampNeg + i)) := by
        show (arrV (cT .int) 256 (fun j => .int (f j))).slots.getD _ _ = _
        rw [Array.getD_eq_getD_getElem?, arrV_read _ _ (by omega)]
        rfl
      rw [e]
      exact ⟨rfl, trivial⟩)
    (g := F0 m pc ls ((.int (iI 256) :: .int (iI 0) :: .ref q1 :: .int (iI 0) :: .ref q0 :: rest).map (mj_cv σ))) rfl hl.1 (rest := rest.map (mj_cv σ)) rfl (by rw [hb]; exact hdg) (by omega) (by show 2 * 0 + _ + _ ≤ _; omega)
  have e1 : copied (vp_cell (cT .int) (256, .inl f)) (vp_cell (cT .int) (256, .inl g)) (iI 0) (iI 0) (iI 256) = vp_cell (cT .int) (256, .inl (va_cpy f g 0 0 256)) := by
    have := va_copied (n0 := 256) (n1 := 256) (sp := (iI 0).toNatClampNeg) (dp := (iI 0).toNatClampNeg) (n := (iI 256).toNatClampNeg) (fun z => Value.int z) (cT .int) (cT .int) f g (by rw [z0, z256]; omega)
    rw [z0, z256] at this
    show (arrV (cT .int) 256 (fun j => .int (g j))).storeRun _ ((arrV (cT .int) 256 (fun j => .int (f j))).stretch _ _) = _
    rw [z0, z256]
    exact this
  rw [e1] at X' step
  have hlt : σ q1 < H.size := (Array.getElem?_eq_some_iff.mp a1).1
  have hh : ((T.setVm vm').setCell (σ q1) (vp_cell (cT .int) (256, .inl (va_cpy f g 0 0 256)))).heap = H.setIfInBounds (σ q1) (vp_cell (cT .int) (256, .inl (va_cpy f g 0 0 256))) := by rw [← hT]; rfl
  have hR1 := hR.put (H1 := H.setIfInBounds (σ q1) (vp_cell (cT .int) (256, .inl (va_cpy f g 0 0 256)))) (k := 0) (c := .inl (.int, 256, .inl (va_cpy f g 0 0 256))) hσ b1 (by
      show (H.setIfInBounds (σ q1) _)[σ q1]? = some (vp_cell _ _)
      simp [Array.getElem?_setIfInBounds, hlt]
      rfl) (by simp) (fun x hx => by simp [Array.getElem?_setIfInBounds, Ne.symm hx])
  have hbq : base ≤ σ q1 := hσ.1 q1 b1
  obtain ⟨t, c1, c2⟩ := k _ (locs ++ ((vp_cell (cT .int) (256, .inl f)).stretch (iI 0).toNatClampNeg (iI 256).toNatClampNeg).zipIdx.map fun q => ⟨σ q1, (iI 0).toNatClampNeg + q.2⟩) ls ⟨hR1.1, hR1.2.1, hR1.2.2.1, hR1.2.2.2.1, hR1.2.2.2.2.1, fun q hq => by
      rcases List.mem_append.mp hq with hq | hq
      · exact hR.2.2.2.2.2 q hq
      · obtain ⟨z, -, hz⟩ := List.mem_map.mp hq
        rw [← hz]
        exact hbq⟩ hl _ hh X'
  exact ⟨t, step t c1, c2⟩
theorem r_acp {M : mj_M} {RC RS dd : Nat} (hA : mj_okA M = true) {pc idx b w q0 q1 : Nat} {v : Value} {f g : Nat → Int32} {L rest : List Value} {h : mj_H} {cc cs : Nat} (hcd : mj_cd M pc = some (.invokestatic idx, 3, 1001, b, w, v)) (h0 : h[q0]? = some (.inl (.int, 256, .inl f))) (h1 : h[q1]? = some (.inl (.int, 256, .inl g))) (b0 : Nat.ble mj_NE q0 = true) (b1 : Nat.ble mj_NE q1 = true) (hw : Nat.ble ((rest.map fun v => v.category).sum) 8 = true) (hd : Nat.blt 1 dd = true) : mj_Rc M RC RS dd (pc, L, .int (iI 256) :: .int (iI 0) :: .ref q1 :: .int (iI 0) :: .ref q0 :: rest, h, cc, cs) (pc + 3, L, rest, h.set q1 (.inl (.int, 256, .inl (va_cpy f g 0 0 256))), cc, cs) := fun _ hX k => g_acp hX hA hcd h0 h1 b0 b1 hw hd k
