/-! a throw, and calls that throw -/
theorem g_throwS {M : mj_M} {κ : mj_K} {RC RS dd : Nat} (hX : mj_X M RC RS dd κ) (hO : mM_own M = "WatershedMap") {E text : String} {ik is ic pc pk pi : Nat} {ps : List Nat} {h : mj_H} {mc ms : Nat} (hY : mj_Y E h mc ms κ) (hfit : Bundle.fit E = true) (hk : lw_tbl[pk]? = some (Cond.classLink "WatershedMap" ik E)) (hi : lw_tbl[pi]? = some (Cond.initialized E)) (hstr : (is, text) ∈ mj_strs) (hat : (vx_atS "WatershedMap" ic E mj_nms).map some = ps.map (fun i => lw_tbl[i]?) ∧ (vx_atS "WatershedMap" ic E mj_nms).all (fun w => goodWord w || mj_decl.contains w) = true ∧ (Cond.classLink "WatershedMap" ik E :: Cond.initialized E :: vx_atS "WatershedMap" ic E mj_nms).all vx_ot = true)
    (hd : decode (mM_cc M) pc = .ok (.new ik, 3) ∧ decode (mM_cc M) (pc + 3) = .ok (.dup, 1) ∧ decode (mM_cc M) (pc + 4) = .ok (.ldc is, 2) ∧ decode (mM_cc M) (pc + 6) = .ok (.invokespecial ic, 3) ∧ decode (mM_cc M) (pc + 9) = .ok (.athrow, 1)) {L rest : List Value} {cc cs : Nat} (hw : Nat.ble ((rest.map fun v => v.category).sum) 8 = true) (hroom : 6 ≤ dd ∧ cc + 1 ≤ RC ∧ cs + 6 ≤ RS ∧ cc + 1 ≤ mc ∧ cs + 6 ≤ ms) : mj_G κ (pc, L, rest, h, cc, cs) := by
  obtain ⟨p, l, e, R, s, m, args, below, meth, c, Q, σ, D, cT, base⟩ := κ
  obtain ⟨hx, hb, hml, hown, hts, hE, hini, hRC, hRS, hRd, hRl⟩ := hX
  obtain ⟨sa, rfl, hZ, hst, hlk, htab⟩ := hY
  rw [hO] at hown
  intro H locs ls hR hl
  replace hR : mj_R σ D cT base s h H locs := hR
  replace hl : mj_has σ ls c.maxLocals L := hl
  show W p l e R s m args below meth c H locs cc cs _ (F0 m pc ls (rest.map (mj_cv σ)))
  have hw8 : ((rest.map (mj_cv σ)).map fun v => v.category).sum ≤ 8 := by rw [mj_catS]; exact Nat.le_of_ble_eq_true hw
  refine vx_throwS (A := fun q => base ≤ q) (names := mj_nms) hx hb hst hown hfit (by decide) (hts _ (mj_in hk rfl)) (hts _ (mj_in hi rfl)) (hZ.2.2.2 _ hstr) (mj_atW hat.1 hat.2.1 hts hZ.1) (fun w hw => List.all_eq_true.mp hat.2.2 w hw) hZ.2.1 hZ.2.2.1 hR.2.2.2 hl.1 hd.1 hd.2.1 hd.2.2.1 hd.2.2.2.1 hd.2.2.2.2 (fun x hx => absurd (htab x hx) id) (by show 2 + 3 < R.frames; omega) (by show _ + (13 * (2 + 1) + 43) ≤ R.locals; omega) (by show cc + 1 ≤ R.cells; omega) (by show cs + 6 ≤ R.slots; omega) hlk ?_ hR.2.2.2.2.2 (by show cc + 1 ≤ mc; omega) (by show cs + 6 ≤ ms; omega)
  intro t hal hsz hkp
  refine ⟨rfl, ⟨t.heap.size - H.size, fun i c' hi' => ?_, ?_, ?_⟩, Nat.le_trans hR.2.2.2.1 hsz, fun q h1 h2 => ?_⟩
  · by_cases hlt : i < h.length
    · rw [List.getElem?_append_left hlt] at hi'
      have h5 := mj_at.moved hal (hR.1 i c' hi')
      unfold mj_at at h5 ⊢
      split
      · rename_i hb2
        rw [hb2] at h5
        exact ⟨fun hj => va_at.kept (h5.1 hj) (hkp _ h5.2), Nat.lt_of_lt_of_le h5.2 hsz⟩
      · rename_i hb2
        rw [hb2] at h5
        exact mj_ext.kept h5 fun a ha _ => hkp a ha
    · rw [List.getElem?_append_right (by omega)] at hi'
      have hc' := List.eq_of_mem_replicate (List.mem_of_getElem? hi')
      have hlen : i - h.length < t.heap.size - H.size := by
        have := (List.getElem?_eq_some_iff.mp hi').1
        unfold mj_jk at this
        rw [List.length_replicate] at this
        exact this
      have hNE := hR.2.2.1
      have hsz2 := hR.2.1
      have hb2 : Nat.ble mj_NE i = true := Nat.ble_eq.mpr (by omega)
      unfold mj_at
      rw [hb2]
      subst hc'
      refine ⟨fun hj => Bool.noConfusion hj, ?_⟩
      have := hsz2 (i - h.length)
      rw [show h.length + (i - h.length) = i by omega] at this
      rw [this]
      omega
  · have hsz2 := hR.2.1
    intro j
    unfold mj_jk
    rw [List.length_append, List.length_replicate, Nat.add_assoc, hsz2]
    omega
  · have := hR.2.2.1
    rw [List.length_append]
    omega
  · rw [hkp q (Nat.lt_of_lt_of_le h1 hR.2.2.2.1)]
    exact hR.2.2.2.2.1 q h1 h2
section CLX
variable {p : Program} {l : Launch} {e : Env} {R : Room} {s : State} {m : MethodId} {args : Array Value} {below : List Frame} {meth : Method} {c : Code} {H : Heap} {locs : List Loc} {cells slots : Nat} {Q : State → Prop}
theorem mx_after {σ : Nat → Nat} {D : va_G} {cT : FieldType → ClassId} {base : Nat} {h : mj_H} {E : String} {h' : mj_H} {mc ms : Nat} {pc : Nat} {ls : Array Slot} {st0 rest : List Value} (hR : mj_R σ D cT base s h H locs)
    (hr : vx_Run p l e R s m args below meth c H locs cells slots mc ms (F0 m pc ls st0) rest (fun _ _ _ => False) (mj_XC σ D cT base E h') (fun q => base ≤ q))
    (k : ∀ (H1 : Heap) (locs1 : List Loc) (q : Addr) (ce : Cell) (j : Nat), mj_R σ D cT base s (h' ++ mj_jk j) H1 locs1 → H1[q]? = some ce → ce.vm = .none → s.vm.findClass E = some ce.cls → vx_W p l e R s m args below meth c H1 locs1 (cells + mc) (slots + ms) Q (F0 m pc ls rest) q) : W p l e R s m args below meth c H locs cells slots Q (F0 m pc ls st0) := by
  intro T hT X
  rcases hr T hT X with ⟨v, st₀, t, T', L, h0, X', hL, e1, e2, hF, st⟩ | ⟨q, st₀, t, T', L, E', ce, h0, X', hL, e1, e2, ⟨hE, ⟨j, hb⟩, hz, hk⟩, hce, hcv, hcl, st⟩
  · exact hF.elim
  · subst hE
    rw [h0] at hz hk
    have hal : t.vm.Alike s.vm := by rw [← e2]; exact X'.warmed.alike.symm
    obtain ⟨t2, a1, b1⟩ := k T'.heap (locs ++ L) q ce j ⟨fun i c hi => by rw [e1]; exact (hb.1 i c hi).moved hal, by rw [e1]; exact hb.2.1, hb.2.2, ⟨Nat.le_trans hR.2.2.2.1 (by rw [e1]; exact hz), fun q h1 h2 => by
      rw [e1, hk q (Nat.lt_of_lt_of_le h1 hR.2.2.2.1) h2]
      exact hR.2.2.2.2.1 q h1 h2, fun q hq => by
      rcases List.mem_append.mp hq with h | h
      · exact hR.2.2.2.2.2 q h
      · exact hL q h⟩⟩ (by rw [e1]; exact hce) hcv hcl T' rfl X'
    exact ⟨t2, st.trans a1, b1⟩
end CLX
theorem g_callVX {M M' : mj_M} {κ : mj_K} {RC RS dd : Nat} (hX : mj_X M RC RS dd κ) (hA : mj_okA M = true) (hA' : mj_okA M' = true) {pc q : Nat} {L st As rest : List Value} {h h' : mj_H} {cc cs mc ms d : Nat} {E : String} {MC MS : Nat} (hY : mj_Y E h' MC MS κ) (hC : mj_Cx M' (.ref q :: As) h E h' mc ms d) (hi : mj_isV (mj_cd M pc) M' = true) (hsel : lw_tbl[mM_p3 M']? = some (Cond.selects (mM_y M').cls (mM_y M') (mM_y M')) ∧ lw_tbl[mM_p2 M']? = some (Cond.instanceMethod (mM_y M'))) (hst : st = As.reverse ++ .ref q :: rest) (hn : As.length = mM_np M') (hrc : mj_rcv h q M' = true) (hw : Nat.ble ((rest.map fun v => v.category).sum) 8 = true) (hroom : Nat.ble (cc + mc) RC = true ∧ Nat.ble (cs + ms) RS = true ∧ Nat.blt d dd = true ∧ Nat.ble (cc + mc) MC = true ∧ Nat.ble (cs + ms) MS = true) : mj_G κ (pc, L, st, h, cc, cs) := by
  subst hst
  obtain ⟨hcode', -, hinit', hown', hpl', hm1, hm2, hnp, hnl⟩ := mj_okA_Y hA'
  obtain ⟨p, l, e, R, s, m, args, below, meth, c, Q, σ, D, cT, base⟩ := κ
  obtain ⟨hx, hb, hml, hown, hts, hE, hini, hRC, hRS, hRd, hRl⟩ := hX
  obtain ⟨sa, rfl, hZ, hst2, hlk, htab⟩ := hY
  cases hcd : mj_cd M pc with
  | none => rw [hcd] at hi; cases hi
  | some i =>
    rw [hcd] at hi
    have hkat := mj_okA_K hA hcd
    have hdg := mj_dec hA hcd
    obtain ⟨ins, len, a, b, w, v⟩ := i
    unfold mj_isV at hi
    split at hi
    · rename_i idx a' b' w' v' heq
      cases heq
      simp only [Bool.and_eq_true] at hi
      have ha : a = M'.1 := Nat.eq_of_beq_eq_true hi.1
      have ha2 : a < 1000 := Nat.blt_eq.mp hi.2
      have hlink : lw_tbl[w]? = some (Cond.methodLink (mM_own M) idx (mM_y M')) := by
        simp only [mj_kat, Bool.or_eq_true, decide_eq_true_eq] at hkat
        rcases hkat with hk | hk
        · rw [ha] at hk; exact hk
        · exact absurd (Nat.le_of_ble_eq_true hk) (by omega)
      intro H locs ls hR hl
      obtain ⟨hr1, hr2, hr3, hr4, hr5⟩ := hroom
      have hd : d < dd := Nat.blt_eq.mp hr3
      have hT : GoodIn mj_tbl (wsV (mM_own M) idx (mM_y M').cls (mM_y M') (mj_wsM M')) := mj_good fun w hw => by
        unfold wsV at hw
        rcases List.mem_append.mp hw with hw | hw
        · simp only [List.mem_cons, List.not_mem_nil, or_false] at hw
          rcases hw with rfl | rfl | rfl | rfl
          · exact mj_in hlink rfl
          · exact mj_in hsel.2 rfl
          · exact mj_in hsel.1 rfl
          · exact hinit'
        · exact mj_goodM hA' w hw
      have cw : CallW R s args (mM_own M) (mM_y M').cls idx (mM_y M') (mM_cc M') (mM_nl M') (mM_ret M') (mj_wsM M') (mj_rm d mc ms) mc ms (mM_np M') := cwV (mM_np M') hts hT rfl rfl rfl ⟨rfl, hm1, hm2, hnp⟩ ⟨by show d + 1 ≤ R.frames; omega, by show 8 + (mM_nl M' + 11) + 64 * d ≤ R.locals; omega⟩
      unfold mj_rcv at hrc
      split at hrc
      · rename_i ci fs C T N hq hble hcl
        simp only [Bool.and_eq_true, decide_eq_true_eq] at hrc
        have hci : ci = M'.2.2.2.2.1 := Nat.eq_of_beq_eq_true hrc.1
        subst hci
        have hat := mj_at.own hble (mj_notJunk hcl) (hR.1 q _ hq)
        have hrv := va_recv hE.1 (mj_sg hat) hcl (q0 := 0) rfl
        have hcls : C = (mM_y M').cls := hrc.2.trans hown'.symm
        refine mx_after (rest := rest.map (mj_cv σ)) hR (vx_runV (As := As.map (mj_cv σ)) (b := σ q) (S := ⟨hx, hb, rfl, hown, hts⟩) (hC l hst2 σ D cT base sa) cw ⟨mj_Px.blind, by rw [← hcls]; exact hrv, fun U hU hW => ⟨⟨rfl, hE.call hR.2.2.2 hU hW, by rw [hU]; exact mj_R0.moved hW.alike ⟨hR.1, hR.2.1, hR.2.2.1⟩⟩, hZ.call hR.2.2.2 hU hW⟩⟩ rfl (by rw [List.length_map]; exact hn) hl.1 (by simp only [List.map_append, List.map_reverse, List.map_cons]; rfl) (lv_room (by rw [mj_catS]; exact Nat.le_of_ble_eq_true hw)) hdg ⟨Nat.le_trans (Nat.le_of_ble_eq_true hr1) hRC, Nat.le_trans (Nat.le_of_ble_eq_true hr2) hRS⟩) fun H1 locs1 q' ce j hR1 hce hcv hcl => ?_
        exact vx_out (fun x hx => absurd (htab x hx) id) hlk hce hcv hcl (fun t ht hal => ⟨rfl, ⟨j, by rw [ht]; exact mj_R0.moved (s := s) hal ⟨hR1.1, hR1.2.1, hR1.2.2.1⟩⟩, hR1.2.2.2.F ht⟩) hR1.2.2.2.2.2 (Nat.le_of_ble_eq_true hr4) (Nat.le_of_ble_eq_true hr5)
      · cases hrc
    · cases hi
theorem g_callSX {M M' : mj_M} {κ : mj_K} {RC RS dd : Nat} (hX : mj_X M RC RS dd κ) (hA : mj_okA M = true) (hA' : mj_okA M' = true) {pc : Nat} {L st As rest : List Value} {h h' : mj_H} {cc cs mc ms d : Nat} {E : String} {MC MS : Nat} (hY : mj_Y E h' MC MS κ) (hC : mj_Cx M' As h E h' mc ms d) (hi : mj_isS (mj_cd M pc) M' = true) (hsta : lw_tbl[mM_p2 M']? = some (Cond.static (mM_y M'))) (hst : st = As.reverse ++ rest) (hn : As.length = mM_np M') (hw : Nat.ble ((rest.map fun v => v.category).sum) 8 = true) (hroom : Nat.ble (cc + mc) RC = true ∧ Nat.ble (cs + ms) RS = true ∧ Nat.blt d dd = true ∧ Nat.ble (cc + mc) MC = true ∧ Nat.ble (cs + ms) MS = true) : mj_G κ (pc, L, st, h, cc, cs) := by
  subst hst
  obtain ⟨hcode', -, hinit', hown', hpl', hm1, hm2, hnp, hnl⟩ := mj_okA_Y hA'
  obtain ⟨p, l, e, R, s, m, args, below, meth, c, Q, σ, D, cT, base⟩ := κ
  obtain ⟨hx, hb, hml, hown, hts, hE, hini, hRC, hRS, hRd, hRl⟩ := hX
  obtain ⟨sa, rfl, hZ, hst2, hlk, htab⟩ := hY
  cases hcd : mj_cd M pc with
  | none => rw [hcd] at hi; cases hi
  | some i =>
    rw [hcd] at hi
    have hkat := mj_okA_K hA hcd
    have hdg := mj_dec hA hcd
    obtain ⟨ins, len, a, b, w, v⟩ := i
    unfold mj_isS at hi
    split at hi
    · rename_i idx a' b' w' v' heq
      cases heq
      simp only [Bool.and_eq_true] at hi
      have ha : a = M'.1 := Nat.eq_of_beq_eq_true hi.1
      have ha2 : a < 1000 := Nat.blt_eq.mp hi.2
      have hlink : lw_tbl[w]? = some (Cond.methodLink (mM_own M) idx (mM_y M')) := by
        unfold mj_kat at hkat
        dsimp only at hkat
        split at hkat
        · omega
        · simp only [Bool.or_eq_true, decide_eq_true_eq] at hkat
          rcases hkat with hk | hk
          · rw [ha] at hk; exact hk
          · exact absurd (Nat.le_of_ble_eq_true hk) (by omega)
      intro H locs ls hR hl
      obtain ⟨hr1, hr2, hr3, hr4, hr5⟩ := hroom
      have hd : d < dd := Nat.blt_eq.mp hr3
      have hT : GoodIn mj_tbl (va_wsS (mM_own M) idx (mM_y M') (mj_wsM M')) := mj_good fun w hw => by
        unfold va_wsS at hw
        rcases List.mem_append.mp hw with hw | hw
        · simp only [List.mem_cons, List.not_mem_nil, or_false] at hw
          rcases hw with rfl | rfl | rfl
          · exact mj_in hlink rfl
          · exact mj_in hsta rfl
          · exact hinit'
        · exact mj_goodM hA' w hw
      have cw := va_cwS (R := R) (s := s) (args := args) (bytes := mM_cc M') (maxL := mM_nl M') (ret := mM_ret M') (rm := mj_rm d mc ms) (mM_np M') hts hT rfl rfl rfl ⟨hm1, hm2, hnp⟩ ⟨by show d + 1 ≤ R.frames; omega, by show 8 + (mM_nl M' + 11) + 64 * d ≤ R.locals; omega⟩
      refine mx_after (rest := rest.map (mj_cv σ)) hR (vx_runS (As := As.map (mj_cv σ)) (S := ⟨hx, hb, rfl, hown, hts⟩) (hC l hst2 σ D cT base sa) cw ⟨mj_Px.blind, fun U hU hW => ⟨⟨rfl, hE.call hR.2.2.2 hU hW, by rw [hU]; exact mj_R0.moved hW.alike ⟨hR.1, hR.2.1, hR.2.2.1⟩⟩, hZ.call hR.2.2.2 hU hW⟩⟩ rfl (by rw [List.length_map]; exact hn) hl.1 (by simp only [List.map_append, List.map_reverse]) (lv_room (by rw [mj_catS]; exact Nat.le_of_ble_eq_true hw)) hdg ⟨Nat.le_trans (Nat.le_of_ble_eq_true hr1) hRC, Nat.le_trans (Nat.le_of_ble_eq_true hr2) hRS⟩) fun H1 locs1 q' ce j hR1 hce hcv hcl => ?_
      exact vx_out (fun x hx => absurd (htab x hx) id) hlk hce hcv hcl (fun t ht hal => ⟨rfl, ⟨j, by rw [ht]; exact mj_R0.moved (s := s) hal ⟨hR1.1, hR1.2.1, hR1.2.2.1⟩⟩, hR1.2.2.2.F ht⟩) hR1.2.2.2.2.2 (Nat.le_of_ble_eq_true hr4) (Nat.le_of_ble_eq_true hr5)
    · cases hi
