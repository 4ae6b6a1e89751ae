/-! THE LAW AND ITS WRAPPERS: methods whose tables of handlers may not be empty -/
def mj_okB (M : mj_M) : Bool := mj_okM M && mj_okF M && mj_okK M
theorem mj_okB_M {M : mj_M} (h : mj_okB M = true) : mj_okM M = true := by
  simp only [mj_okB, Bool.and_eq_true] at h
  exact h.1.1
theorem mj_okB_F {M : mj_M} (h : mj_okB M = true) : mj_okF M = true := by
  simp only [mj_okB, Bool.and_eq_true] at h
  exact h.1.2
theorem mj_okB_K {M : mj_M} (h : mj_okB M = true) {pc : Nat} {i : mj_I} (hi : mj_cd M pc = some i) : mj_kat M pc i = true := by
  have hl : pc < mM_len M := by
    unfold mj_cd at hi
    split at hi
    · rename_i h1
      exact Nat.blt_eq.mp h1
    · cases hi
  simp only [mj_okB, Bool.and_eq_true] at h
  have h1 := List.all_eq_true.mp h.2 pc (List.mem_range.mpr hl)
  rw [hi] at h1
  exact h1
theorem mj_decB {M : mj_M} (h : mj_okB M = true) {pc : Nat} {i : mj_I} (hi : mj_cd M pc = some i) : decode (mM_cc M) pc = .ok (i.1, i.2.1) := by
  have h1 := mj_okM_at (mj_okB_M h) hi
  obtain ⟨ins, len, a, b, w, v⟩ := i
  simp only [mj_okI, Bool.and_eq_true, decide_eq_true_eq] at h1
  exact h1.1
theorem g_toB {M : mj_M} {κ : mj_K} {RC RS dd : Nat} (hX : mj_X M RC RS dd κ) (hA : mj_okB M = true) (stop : Nat) (ds : List Bool) {g g' : mj_S} {P : Prop} (h : mj_run (mj_cd M) RC RS stop 200 ds g = some (P, g')) (hP : P) (k : mj_G κ g') : mj_G κ g := mj_simR hX (mj_okB_M hA) (mj_okB_F hA) 200 ds g g' P h hP k
theorem r_toB {M : mj_M} {RC RS dd : Nat} (hA : mj_okB M = true) (stop : Nat) (ds : List Bool) {g g' : mj_S} {P : Prop} (h : mj_run (mj_cd M) RC RS stop 200 ds g = some (P, g')) (hP : P) : mj_Rc M RC RS dd g g' := fun _ hX k => g_toB hX hA stop ds h hP k
theorem g_callIB {M M' : mj_M} {κ : mj_K} {RC RS dd : Nat} (hX : mj_X M RC RS dd κ) (hA : mj_okB M = true) (hA' : mj_okA M' = true) {pc q : Nat} {L st As rest : List Value} {h h' : mj_H} {cc cs mc ms d : Nat} (hC : mj_Ct M' (.ref q :: As) h none h' mc ms d) (hi : mj_isI (mj_cd M pc) M' = true) (hin2 : lw_tbl[mM_p2 M']? = some (Cond.instanceMethod (mM_y M'))) (hret : mM_ret M' = none) (hini' : mj_ini M' = true) (hst : st = As.reverse ++ .ref q :: rest) (hn : As.length = mM_np M') (hw : Nat.ble ((rest.map fun v => v.category).sum) 8 = true) (hroom : Nat.ble (cc + mc) RC = true ∧ Nat.ble (cs + ms) RS = true ∧ Nat.blt d dd = true) (k : mj_G κ (pc + 3, L, rest, h', cc + mc, cs + ms)) : mj_G κ (pc, L, st, h, cc, cs) := by
  subst hst
  obtain ⟨hcode', -, hinit', hown', hpl', hm1, hm2, hnp, hnl⟩ := mj_okA_Y hA'
  obtain ⟨p, l, e, R, s, m, args, below, meth, c, Q, σ, D, cT, base⟩ := κ
  obtain ⟨hx, hb, hml, hown, hts, hE, hini, hRC, hRS, hRd, hRl⟩ := hX
  have hnm : (mM_y M').name = "<init>" := of_decide_eq_true hini'
  cases hcd : mj_cd M pc with
  | none => rw [hcd] at hi; cases hi
  | some i =>
    rw [hcd] at hi
    have hkat := mj_okB_K hA hcd
    have hdg := mj_decB hA hcd
    obtain ⟨ins, len, a, b, w, v⟩ := i
    unfold mj_isI at hi
    split at hi
    · rename_i idx a' b' w' v' heq
      cases heq
      simp only [Bool.and_eq_true] at hi
      have ha : a = M'.1 := Nat.eq_of_beq_eq_true hi.1
      have ha2 : a < 1000 := Nat.blt_eq.mp hi.2
      obtain ⟨hr1, hr2, hr3⟩ := hroom
      have hd : d < dd := Nat.blt_eq.mp hr3
      intro H locs ls hR hl
      have hwsM : mj_wsM M' = Cond.code (mM_y M') (mM_cc M') (mM_nl M') none :: mj_tbl := by unfold mj_wsM; rw [hret]
      have hgM : GoodIn mj_tbl (mj_wsM M') := mj_good (mj_goodM hA')
      have hRm : (mj_rm d mc ms).frames + 1 ≤ R.frames ∧ 8 + (mM_nl M' + 11) + (mj_rm d mc ms).locals ≤ R.locals := ⟨by show d + 1 ≤ R.frames; omega, by show 8 + (mM_nl M' + 11) + 64 * d ≤ R.locals; omega⟩
      have fin : ∀ run : va_Run p l e R s m args below meth c H locs cc cs mc ms (F0 m pc ls ((As.reverse ++ .ref q :: rest).map (mj_cv σ))) (rest.map (mj_cv σ)) (mj_Qc σ D cT base none h' (Value.ref (σ q) :: As.map (mj_cv σ)).toArray) (fun q => base ≤ q), W p l e R s m args below meth c H locs cc cs Q (F0 m pc ls ((As.reverse ++ .ref q :: rest).map (mj_cv σ))) := fun run =>
        mw_after (a := (Value.ref (σ q) :: As.map (mj_cv σ)).toArray) (rest := rest.map (mj_cv σ)) hR run fun H1 locs1 hR1 => k H1 locs1 ls hR1 hl
      unfold mj_kat at hkat
      dsimp only at hkat
      split at hkat
      · omega
      · simp only [Bool.or_eq_true, decide_eq_true_eq] at hkat
        have hlink : lw_tbl[w]? = some (Cond.methodLink (mM_own M) idx (mM_y M')) := by
          rcases hkat with hk | hk
          · rw [ha] at hk; exact hk
          · exact absurd (Nat.le_of_ble_eq_true hk) (by omega)
        have cw := cwI (R := R) (rm := mj_rm d mc ms) (mM_np M') hts hgM hwsM rfl rfl (hts _ hinit') (hts _ (mj_in hlink rfl)) (hts _ (mj_in hin2 rfl)) hnm ⟨hm1, hm2, hnp⟩ hRm
        exact fin (va_runI (As := As.map (mj_cv σ)) (b := σ q) (S := ⟨hx, hb, rfl, hown, hts⟩) (hC l σ D cT base) cw ⟨mj_Pc.blind, fun U hU hW => ⟨rfl, hE.call hR.2.2.2 hU hW, by rw [hU]; exact mj_R0.moved hW.alike ⟨hR.1, hR.2.1, hR.2.2.1⟩⟩⟩ rfl (by rw [List.length_map]; exact hn) hl.1 (by simp only [List.map_append, List.map_reverse, List.map_cons]; rfl) (lv_room (by rw [mj_catS]; exact Nat.le_of_ble_eq_true hw)) hdg ⟨Nat.le_trans (Nat.le_of_ble_eq_true hr1) hRC, Nat.le_trans (Nat.le_of_ble_eq_true hr2) hRS⟩)
      · obtain ⟨z, hz1, hz2⟩ := List.any_eq_true.mp hkat
        split at hz2
        · rename_i o i y host
          obtain ⟨e1, e2, e3⟩ := of_decide_eq_true hz2
          rw [e1, e2, e3, ha] at hz1
          have cw := va_cnB (R := R) (s := s) (args := args) (rm := mj_rm d mc ms) (mM_np M') hts hgM hwsM rfl rfl (hE.2.1 _ hz1) (hts _ hinit') ⟨hm1, hm2, hnp⟩ hRm
          exact fin (va_runIN (As := As.map (mj_cv σ)) (b := σ q) (S := ⟨hx, hb, rfl, hown, hts⟩) (hC l σ D cT base) ⟨cw, hnm, hts _ (mj_in hin2 rfl)⟩ ⟨mj_Pc.blind, fun U hU hW => ⟨rfl, hE.call hR.2.2.2 hU hW, by rw [hU]; exact mj_R0.moved hW.alike ⟨hR.1, hR.2.1, hR.2.2.1⟩⟩⟩ rfl (by rw [List.length_map]; exact hn) hl.1 (by simp only [List.map_append, List.map_reverse, List.map_cons]; rfl) (lv_room (by rw [mj_catS]; exact Nat.le_of_ble_eq_true hw)) hdg ⟨Nat.le_trans (Nat.le_of_ble_eq_true hr1) hRC, Nat.le_trans (Nat.le_of_ble_eq_true hr2) hRS⟩)
        · cases hz2
    · cases hi
theorem r_IB {M M' : mj_M} {RC RS dd : Nat} (hA : mj_okB M = true) (hA' : mj_okA M' = true) (hin : lw_tbl[mM_p2 M']? = some (Cond.instanceMethod (mM_y M')) ∧ mM_ret M' = none ∧ mj_ini M' = true) {pc q : Nat} {L As st rest : List Value} {h h' : mj_H} {cc cs mc ms d : Nat} (hC : mj_Ct M' (.ref q :: As) h none h' mc ms d) (hst : st = As.reverse ++ .ref q :: rest) (hi : mj_isI (mj_cd M pc) M' = true) (hn : As.length = mM_np M') (hw : Nat.ble ((rest.map fun v => v.category).sum) 8 = true) (hroom : Nat.ble (cc + mc) RC = true ∧ Nat.ble (cs + ms) RS = true ∧ Nat.blt d dd = true) : mj_Rc M RC RS dd (pc, L, st, h, cc, cs) (pc + 3, L, rest, h', cc + mc, cs + ms) := fun _ hX k => g_callIB hX hA hA' hC hi hin.1 hin.2.1 hin.2.2 hst hn hw hroom k
theorem g_callVDB {n : Nat} {M M' : mj_M} {κ : mj_K} {RC RS dd : Nat} (hX : mj_X M RC RS dd κ) (hA : mj_okB M = true) (hA' : mj_okA M' = true) {pc q : Nat} {L st As rest : List Value} {h h' : mj_H} {cc cs mc ms d : Nat} {r : Option Value} (hC : mj_Cd n M' (.ref q :: As) h r h' mc ms d) (hi : mj_isV (mj_cd M pc) M' = true) (hsel : lw_tbl[mM_p3 M']? = some (Cond.selects (mM_y M').cls (mM_y M') (mM_y M')) ∧ lw_tbl[mM_p2 M']? = some (Cond.instanceMethod (mM_y M'))) (hst : st = As.reverse ++ .ref q :: rest) (hn : As.length = mM_np M') (hrc : mj_rcv h q M' = true) (hw : Nat.ble ((rest.map fun v => v.category).sum) 8 = true) (hroom : Nat.ble (cc + mc) RC = true ∧ Nat.ble (cs + ms) RS = true ∧ Nat.blt d dd = true) (hNE : Nat.ble mj_NE n = true) (hLc : L.all (mj_clV n) = true) (hrc2 : rest.all (mj_clV n) = true) (k : ∀ κ' : mj_K, mj_al n κ κ' → mj_X M RC RS dd κ' → mj_G κ' (pc + 3, L, r.toList ++ rest, h', cc + mc, cs + ms)) : mj_G κ (pc, L, st, h, cc, cs) := by
  subst hst
  obtain ⟨hcode', -, hinit', hown', hpl', hm1, hm2, hnp, hnl⟩ := mj_okA_Y hA'
  obtain ⟨p, l, e, R, s, m, args, below, meth, c, Q, σ, D, cT, base⟩ := κ
  obtain ⟨hx, hb, hml, hown, hts, hE, hini, hRC, hRS, hRd, hRl⟩ := hX
  cases hcd : mj_cd M pc with
  | none => rw [hcd] at hi; cases hi
  | some i =>
    rw [hcd] at hi
    have hkat := mj_okB_K hA hcd
    have hdg := mj_decB hA hcd
    obtain ⟨ins, len, a, b, w, v⟩ := i
    unfold mj_isV at hi
    split at hi
    · rename_i idx a' b' w' v' heq
      cases heq
      simp only [Bool.and_eq_true] at hi
      have ha : a = M'.1 := Nat.eq_of_beq_eq_true hi.1
      have ha2 : a < 1000 := Nat.blt_eq.mp hi.2
      have hlink : lw_tbl[w]? = some (Cond.methodLink (mM_own M) idx (mM_y M')) := by
        simp only [mj_kat, Bool.or_eq_true, decide_eq_true_eq] at hkat
        rcases hkat with hk | hk
        · rw [ha] at hk; exact hk
        · exact absurd (Nat.le_of_ble_eq_true hk) (by omega)
      intro H locs ls hR hl
      obtain ⟨hr1, hr2, hr3⟩ := hroom
      have hd : d < dd := Nat.blt_eq.mp hr3
      have hT : GoodIn mj_tbl (wsV (mM_own M) idx (mM_y M').cls (mM_y M') (mj_wsM M')) := mj_good fun w hw => by
        unfold wsV at hw
        rcases List.mem_append.mp hw with hw | hw
        · simp only [List.mem_cons, List.not_mem_nil, or_false] at hw
          rcases hw with rfl | rfl | rfl | rfl
          · exact mj_in hlink rfl
          · exact mj_in hsel.2 rfl
          · exact mj_in hsel.1 rfl
          · exact hinit'
        · exact mj_goodM hA' w hw
      have cw : CallW R s args (mM_own M) (mM_y M').cls idx (mM_y M') (mM_cc M') (mM_nl M') (mM_ret M') (mj_wsM M') (mj_rm d mc ms) mc ms (mM_np M') := cwV (mM_np M') hts hT rfl rfl rfl ⟨rfl, hm1, hm2, hnp⟩ ⟨by show d + 1 ≤ R.frames; omega, by show 8 + (mM_nl M' + 11) + 64 * d ≤ R.locals; omega⟩
      unfold mj_rcv at hrc
      split at hrc
      · rename_i ci fs C T N hq hble hcl
        simp only [Bool.and_eq_true, decide_eq_true_eq] at hrc
        have hci : ci = M'.2.2.2.2.1 := Nat.eq_of_beq_eq_true hrc.1
        subst hci
        have hat := mj_at.own hble (mj_notJunk hcl) (hR.1 q _ hq)
        have hrv := va_recv hE.1 (mj_sg hat) hcl (q0 := 0) rfl
        have hcls : C = (mM_y M').cls := hrc.2.trans hown'.symm
        refine mw_afterD (a := (Value.ref (σ q) :: As.map (mj_cv σ)).toArray) (rest := rest.map (mj_cv σ)) hR (va_runV (As := As.map (mj_cv σ)) (b := σ q) (S := ⟨hx, hb, rfl, hown, hts⟩) (hC l σ D cT base) cw ⟨mj_Pc.blind, by rw [← hcls]; exact hrv, fun U hU hW => ⟨rfl, hE.call hR.2.2.2 hU hW, by rw [hU]; exact mj_R0.moved hW.alike ⟨hR.1, hR.2.1, hR.2.2.1⟩⟩⟩ rfl (by rw [List.length_map]; exact hn) hl.1 (by simp only [List.map_append, List.map_reverse, List.map_cons]; rfl) (lv_room (by rw [mj_catS]; exact Nat.le_of_ble_eq_true hw)) hdg ⟨Nat.le_trans (Nat.le_of_ble_eq_true hr1) hRC, Nat.le_trans (Nat.le_of_ble_eq_true hr2) hRS⟩) fun H1 locs1 σ' hs1 hs2 hR1 => ?_
        have k' := k (p, l, e, R, s, m, args, below, meth, c, Q, σ', D, cT, base) ⟨σ', hs1, rfl⟩ ⟨hx, hb, hml, hown, hts, hE.agree (Nat.le_of_ble_eq_true hNE) hs1 hs2, hini, hRC, hRS, hRd, hRl⟩ H1 locs1 ls hR1 (hl.agree hs1 hLc)
        have e9 : (r.toList ++ rest).map (mj_cv σ') = (r.map (mj_cv σ')).toList ++ rest.map (mj_cv σ) := by
          rw [List.map_append, mj_clL_cv hs1 hrc2]
          cases r <;> rfl
        dsimp only at k'
        rw [e9] at k'
        exact k'
      · cases hrc
    · cases hi
theorem d_VDB {M M' : mj_M} {RC RS dd n : Nat} (hA : mj_okB M = true) (hA' : mj_okA M' = true) (hsel : lw_tbl[mM_p3 M']? = some (Cond.selects (mM_y M').cls (mM_y M') (mM_y M')) ∧ lw_tbl[mM_p2 M']? = some (Cond.instanceMethod (mM_y M'))) {pc q : Nat} {L As st rest : List Value} {h h' : mj_H} {cc cs mc ms d : Nat} {r : Option Value} (hC : mj_Cd n M' (.ref q :: As) h r h' mc ms d) (hst : st = As.reverse ++ .ref q :: rest) (hi : mj_isV (mj_cd M pc) M' = true) (hn : As.length = mM_np M') (hrc : mj_rcv h q M' = true) (hw : Nat.ble ((rest.map fun v => v.category).sum) 8 = true) (hroom : Nat.ble (cc + mc) RC = true ∧ Nat.ble (cs + ms) RS = true ∧ Nat.blt d dd = true) (hNE : Nat.ble mj_NE n = true) (hLc : L.all (mj_clV n) = true) (hrc2 : rest.all (mj_clV n) = true) : mj_Rd M RC RS dd n (pc, L, st, h, cc, cs) (pc + 3, L, r.toList ++ rest, h', cc + mc, cs + ms) := fun _ hX k => g_callVDB hX hA hA' hC hi hsel hst hn hrc hw hroom hNE hLc hrc2 k
theorem r_swIB {M : mj_M} {RC RS dd : Nat} (hA : mj_okB M = true) {pc tgt : Nat} {L rest : List Value} {h : mj_H} {cc cs : Nat} {df lo hi : Int} {offs : Array Int} {len a b w : Nat} {v : Value} (hcd : mj_cd M pc = some (.tableswitch df lo hi offs, len, a, b, w, v)) {x off : Int} (hx : -2147483648 ≤ x ∧ x ≤ 2147483647) (h1 : lo ≤ x) (h2 : x ≤ hi) (ho : offs[(x - lo).toNat]? = some off) (ht : (pc : Int) + off = (tgt : Int)) : mj_Rc M RC RS dd (pc, L, .int (iI x) :: rest, h, cc, cs) (tgt, L, rest, h, cc, cs) := by
  intro κ hX k
  have hdg := mj_decB hA hcd
  obtain ⟨p, l, e, R, s, m, args, below, meth, c, Q, σ, D, cT, base⟩ := κ
  obtain ⟨hx', hb, -⟩ := hX
  intro H locs ls hR hl
  exact lv_tableIn hx' hb hdg (by rw [iI_toInt hx.1 hx.2]; omega) (by rw [iI_toInt hx.1 hx.2]; omega) (by rw [iI_toInt hx.1 hx.2]; exact ho) ht (k H locs ls hR hl)
theorem r_swOB {M : mj_M} {RC RS dd : Nat} (hA : mj_okB M = true) {pc tgt : Nat} {L rest : List Value} {h : mj_H} {cc cs : Nat} {df lo hi : Int} {offs : Array Int} {len a b w : Nat} {v : Value} (hcd : mj_cd M pc = some (.tableswitch df lo hi offs, len, a, b, w, v)) {x : Int} (hx : -2147483648 ≤ x ∧ x ≤ 2147483647) (h1 : x < lo ∨ hi < x) (ht : (pc : Int) + df = (tgt : Int)) : mj_Rc M RC RS dd (pc, L, .int (iI x) :: rest, h, cc, cs) (tgt, L, rest, h, cc, cs) := by
  intro κ hX k
  have hdg := mj_decB hA hcd
  obtain ⟨p, l, e, R, s, m, args, below, meth, c, Q, σ, D, cT, base⟩ := κ
  obtain ⟨hx', hb, -⟩ := hX
  intro H locs ls hR hl
  exact lv_tableOut hx' hb hdg (by rw [iI_toInt hx.1 hx.2]; exact h1) ht (k H locs ls hR hl)
theorem mj_storeU {σ : Nat → Nat} {ls : Array Slot} {nL : Nat} {L : List Value} (h : mj_has σ ls nL L) {i : Nat} (hi : i < nL) {u : Value} (hc : u.category = 1) : ∃ ls', storeLocals ls i u = some ls' ∧ mj_has σ ls' nL (mj_put1 L i mj_u) := by
  obtain ⟨hs, hw, hl⟩ := h
  have hc' := hc
  obtain ⟨ls', e, h'⟩ := lv_store1 (l := []) ⟨hs, hw, fun q hq => absurd hq List.not_mem_nil⟩ hi hc'
  refine ⟨ls', e, h'.1, h'.2.1, fun j w hj hwu => ?_⟩
  unfold mj_put1 at hj
  rw [List.getElem?_set] at hj
  split at hj
  · rename_i hij
    subst hij
    split at hj
    · exact absurd (Option.some.inj hj).symm hwu
    · cases hj
  · rename_i hij
    obtain ⟨h1, h2⟩ := mj_clr_at hj hwu
    obtain ⟨l2, e2, h3⟩ := lv_store1 (l := [(j, mj_cv σ w)]) ⟨hs, hw, fun q hq => by rw [List.mem_singleton.mp hq]; exact hl j w h1 hwu⟩ hi hc'
    cases e.symm.trans e2
    refine h3.2.2 (j, mj_cv σ w) (List.mem_cons_of_mem _ (List.mem_filter.mpr ⟨List.mem_cons_self, ?_⟩))
    simp only [Bool.and_eq_true, Bool.not_eq_true', beq_eq_false_iff_ne, ne_eq, Bool.and_eq_false_iff, mj_cat]
    exact ⟨fun q => hij q.symm, by
      by_cases q : j + 1 = i
      · exact Or.inr fun z => h2 ⟨q, z⟩
      · exact Or.inl q⟩
/-- what stands besides in the law and its wrappers -/
def mj_Tz (κ : mj_K) : Prop := match κ with
  | (_, l, _, _, s, _, _, _, _, _, _, _, _, _, base) => l.stackTraces = false ∧ (∃ sa, mj_Z base sa s) ∧ va_Nc "java/lang/IllegalArgumentException" "java/lang/IndexOutOfBoundsException" s
def mj_Th (hh : List (Nat × Nat × Nat × Nat)) (κ : mj_K) : Prop := match κ with
  | (_, _, _, _, _, _, _, _, _, c, _, _, _, _, _) => c.exceptionTable.toList = tableOf hh
theorem mj_Tz.al {n : Nat} {κ κ' : mj_K} (h : mj_al n κ κ') (hz : mj_Tz κ) : mj_Tz κ' := by
  obtain ⟨p, l, e, R, s, m, args, below, meth, c, Q, σ, D, cT, base⟩ := κ
  obtain ⟨σ', -, rfl⟩ := h
  exact hz
theorem mj_Th.al {hh : List (Nat × Nat × Nat × Nat)} {n : Nat} {κ κ' : mj_K} (h : mj_al n κ κ') (hz : mj_Th hh κ) : mj_Th hh κ' := by
  obtain ⟨p, l, e, R, s, m, args, below, meth, c, Q, σ, D, cT, base⟩ := κ
  obtain ⟨σ', -, rfl⟩ := h
  exact hz
def mj_Pw (σ : Nat → Nat) (D : va_G) (cT : FieldType → ClassId) (base : Nat) (sa : Nat → Nat) (as : List Value) (h : mj_H) : Array Value → State → Prop := fun v U => mj_Px σ D cT base sa as h v U ∧ va_Nc "java/lang/IllegalArgumentException" "java/lang/IndexOutOfBoundsException" U
theorem mj_Pw.blind {σ : Nat → Nat} {D : va_G} {cT : FieldType → ClassId} {base : Nat} {sa : Nat → Nat} {as : List Value} {h : mj_H} : FrameBlind (mj_Pw σ D cT base sa as h) := fun a U g mk ⟨h1, h2⟩ => ⟨mj_Px.blind a U g mk h1, va_Nc.moved (U := U.calling g mk a) (Vm.Alike.refl U.vm) h2⟩
/-- a wrapper's contract: it throws nothing -/
def mj_Cw (n : Nat) (y : MethodName) (hh : List (Nat × Nat × Nat × Nat)) (M : mj_M) (as : List Value) (h : mj_H) (r : Option Value) (h' : mj_H) (mc ms d : Nat) : Prop :=
  ∀ (l : Launch), l.stackTraces = false → ∀ (σ : Nat → Nat) (D : va_G) (cT : FieldType → ClassId) (base : Nat) (sa : Nat → Nat), Met l y (Cond.codeWith y (mM_cc M) (mM_nl M) (mM_ret M) hh :: mj_tbl) (mj_rm d mc ms) (mj_Pw σ D cT base sa as h) (mj_Qd n σ D cT base r h') mc ms (fun q => base ≤ q)
theorem mj_introW {n : Nat} {y : MethodName} {hh : List (Nat × Nat × Nat × Nat)} {M : mj_M} {as : List Value} {h : mj_H} {r : Option Value} {h' : mj_H} {mc ms d : Nat} (hA : mj_okB M = true) (hp : plainName y.cls = true ∧ y.cls = mM_own M ∧ mj_ini M = false) (hl : Nat.ble (lg_sl as).length (mM_nl M) = true) (body : ∀ κ : mj_K, mj_X M mc ms d κ → mj_Tz κ → mj_Th hh κ → mj_FinD n M κ r h' mc ms d → mj_G κ (0, mj_ent as (mM_nl M), [], h, 0, 0)) : mj_Cw n y hh M as h r h' mc ms d := by
  obtain ⟨hpl, hown', hini0⟩ := hp
  intro l hst σ D cT base sa
  refine va_MetW (cc := mM_cc M) (maxL := mM_nl M) (ret := mM_ret M) (hh := hh) hpl rfl ?_
  intro p e s m args below meth c s₁ B hml hv
  obtain ⟨⟨⟨rfl, hE, hR⟩, hZ⟩, hNc⟩ := hv
  have hts0 := atoms_spec (ws := Cond.codeWith y (mM_cc M) (mM_nl M) (mM_ret M) hh :: mj_tbl) B.pre
  have htab := vx_table (x := y) B (hts0 _ List.mem_cons_self)
  have hts : ∀ w ∈ mj_tbl, w.before _ s = true := fun w hw => hts0 w (List.mem_cons_of_mem _ hw)
  have hown : s.vm.findClass (mM_own M) = some m.cls := hown' ▸ findClass_of_methodNamed B.named
  have hlocks := B.notSynchronized
  have hin : mj_ini M = true → meth.name = "<init>" := fun h => absurd (hini0.symm.trans h) Bool.false_ne_true
  have hlen : (lg_sl (as.map (mj_cv σ))).length ≤ mM_nl M := by rw [lg_sl_cv]; exact Nat.le_of_ble_eq_true hl
  have hle := lv_entry (as.map (mj_cv σ)) (n := mM_nl M) hlen
  rw [lg_entry_eq]
  generalize (lg_sl (as.map (mj_cv σ)) ++ List.replicate (mM_nl M - (lg_sl (as.map (mj_cv σ))).length) Slot.unset).toArray = ls at hle ⊢
  have hX : mj_X M mc ms d (p, l, e, (headSpec (Cond.codeWith y (mM_cc M) (mM_nl M) (mM_ret M) hh :: mj_tbl) (mj_rm d mc ms)).room, s, m, (as.map (mj_cv σ)).toArray, below, meth, c, MQ below (mj_Qd n σ D cT base r h') (as.map (mj_cv σ)).toArray s mc ms (fun q => base ≤ q), σ, D, cT, base) := ⟨B.exec, B.bytes, hml, hown, hts, hE, hin, Nat.le_refl _, Nat.le_refl _, Nat.le_refl _, Nat.le_refl _⟩
  have hF : mj_FinD n M (p, l, e, (headSpec (Cond.codeWith y (mM_cc M) (mM_nl M) (mM_ret M) hh :: mj_tbl) (mj_rm d mc ms)).room, s, m, (as.map (mj_cv σ)).toArray, below, meth, c, MQ below (mj_Qd n σ D cT base r h') (as.map (mj_cv σ)).toArray s mc ms (fun q => base ≤ q), σ, D, cT, base) r h' mc ms d := by
    intro κ' hal hX' pc L cc cs i hi hr hc1 hc2
    obtain ⟨σ', hσ', rfl⟩ := hal
    obtain ⟨-, -, -, -, -, hE', -, -, -, -, -⟩ := hX'
    intro H locs ls' hR' hl'
    replace hR' : mj_R σ' D cT base s h' H locs := hR'
    show W p l e _ s m _ below meth c H locs cc cs _ (F0 m pc ls' (r.toList.map (mj_cv σ')))
    have hdg := mj_decB hA hi
    obtain ⟨ins, len, a, b, w, v⟩ := i
    refine W.widen hc1 hc2 ?_
    have hq : ∀ t : State, t.heap = H → s.WarmedH t.vm → mj_Qd n σ D cT base r h' (as.map (mj_cv σ)).toArray s (.returned (r.map (mj_cv σ'))) t := fun t ht hW => ⟨σ', hσ', hE'.2.2.2.2, rfl, by rw [ht]; exact mj_R0.moved (s := s) hW.alike ⟨hR'.1, hR'.2.1, hR'.2.2.1⟩, hR'.2.2.2.F ht⟩
    have hf : ∀ q ∈ locs, base ≤ q.base := hR'.2.2.2.2.2
    unfold mj_isR at hr
    have hret := B.returns
    dsimp only at hr hdg hq ⊢
    split at hr
    · rename_i e3
      rw [e3] at hret
      rw [hr] at hdg
      exact W.iret B.exec B.bytes hret hq hf hdg
    · rename_i e3
      rw [e3] at hret
      rw [hr.1] at hdg
      exact W.zret B.exec B.bytes hret hr.2 hq hf hdg
    · rename_i e3
      rw [e3] at hret
      rw [hr] at hdg
      exact W.lret B.exec B.bytes hret hq hf hdg
    · rename_i e3
      rw [e3] at hret
      rw [hr] at hdg
      exact W.dret B.exec B.bytes hret hq hf hdg
    · rename_i e3
      rw [e3] at hret
      rw [hr] at hdg
      exact W.aret B.exec B.bytes hret (Or.inl ⟨_, rfl⟩) (Or.inr ⟨_, rfl⟩) hq hf hdg
    · rename_i e3
      rw [e3] at hret
      rw [hr] at hdg
      exact W.aret B.exec B.bytes hret (Or.inr ⟨_, rfl⟩) (Or.inr ⟨_, rfl⟩) hq hf hdg
    · rename_i e3
      rw [e3] at hret
      rw [hr] at hdg
      exact W.vret B.exec B.bytes hret hq hf hdg
    · exact absurd hr id
  refine body _ hX ⟨hst, ⟨sa, hZ⟩, hNc⟩ htab hF s.heap [] ls ⟨hR.1, hR.2.1, hR.2.2, va_S.rf⟩ ⟨by rw [hml]; exact hle.1, hle.2.1, fun i v hi hv => ?_⟩
  have h2 : (mj_entA as)[i]? = some v := by
    unfold mj_ent at hi
    by_cases hlt : i < (mj_entA as).length
    · rw [List.getElem?_append_left hlt] at hi
      exact hi
    · rw [List.getElem?_append_right (by omega)] at hi
      exact absurd (List.eq_of_mem_replicate (List.mem_of_getElem? hi)) hv
  have h3 := mj_entA_in (σ := σ) as 0 i v h2 hv
  rw [Nat.zero_add] at h3
  exact hle.2.2 (i, mj_cv σ v) h3
theorem cw_d {n : Nat} {y : MethodName} {hh : List (Nat × Nat × Nat × Nat)} {M : mj_M} (hA : mj_okB M = true) (hp : plainName y.cls = true ∧ y.cls = mM_own M ∧ mj_ini M = false) {as : List Value} {h : mj_H} {r : Option Value} {h' : mj_H} {mc ms d : Nat} {pc : Nat} {L st : List Value} {cc cs : Nat} {i : mj_I} (hl : Nat.ble (lg_sl as).length (mM_nl M) = true) (hR : ∀ κ : mj_K, mj_X M mc ms d κ → mj_Tz κ → mj_Th hh κ → (∀ κ' : mj_K, mj_al n κ κ' → mj_X M mc ms d κ' → mj_G κ' (pc, L, st, h', cc, cs)) → mj_G κ (0, mj_ent as (mM_nl M), [], h, 0, 0)) (hst : st = r.toList) (hi : mj_cd M pc = some i) (hr : mj_isR (mM_ret M) r i) (hc : Nat.ble cc mc = true) (hs : Nat.ble cs ms = true) : mj_Cw n y hh M as h r h' mc ms d := mj_introW hA hp hl fun κ hX hz hth hF => hR κ hX hz hth fun κ' hal hX' => by
  subst hst
  exact hF κ' hal hX' pc L cc cs i hi hr (Nat.le_of_ble_eq_true hc) (Nat.le_of_ble_eq_true hs)
theorem g_catchB {n : Nat} {hh : List (Nat × Nat × Nat × Nat)} {M M' : mj_M} {κ : mj_K} {RC RS dd : Nat} (hX : mj_X M RC RS dd κ) (hz : mj_Tz κ) (hth : mj_Th hh κ) (hO : mM_own M = "WatershedMapLaw") (hA : mj_okB M = true) (hA' : mj_okA M' = true) {pc q : Nat} {L st As rest : List Value} {h h' : mj_H} {cc cs mc ms d : Nat} {E : String} (hC : mj_Cx M' (.ref q :: As) h E h' mc ms d) (hi : mj_isV (mj_cd M pc) M' = true) (hsel : lw_tbl[mM_p3 M']? = some (Cond.selects (mM_y M').cls (mM_y M') (mM_y M')) ∧ lw_tbl[mM_p2 M']? = some (Cond.instanceMethod (mM_y M'))) (hst : st = As.reverse ++ .ref q :: rest) (hn : As.length = mM_np M') (hrc : mj_rcv h q M' = true) (hw : Nat.ble ((rest.map fun v => v.category).sum) 8 = true) (hroom : Nat.ble (cc + mc) RC = true ∧ Nat.ble (cs + ms) RS = true ∧ Nat.blt d dd = true) {pre suf : List ExceptionTableEntry} {x : ExceptionTableEntry} {pk k : Nat} {i2 : mj_I} (hsp : tableOf hh = pre ++ x :: suf) (hpass : ∀ z ∈ pre, covers z pc = false ∨ (z.catchType = 19 ∧ E = "java/lang/IllegalArgumentException")) (hcov : covers x pc = true) (hx0 : x.catchType ≠ 0) (hlk : lw_tbl[pk]? = some (Cond.classLink "WatershedMapLaw" x.catchType E)) (hE2 : Cond.castable E E ∈ mj_decl) (hi2 : mj_cd M x.handlerPc = some i2) (hi3 : i2.1 = .astore k ∧ i2.2.1 = 2 ∨ (∃ k4 : Fin 4, i2.1 = .astore_n k4 ∧ (k4 : Nat) = k ∧ i2.2.1 = 1)) (hk : k < mM_nl M) (hnn : Nat.ble n h'.length = true) (hNE : Nat.ble mj_NE h'.length = true) (hP : h'.all (mj_clC h'.length) = true) (hLc : (mj_put1 L k mj_u).all (mj_clV h'.length) = true) (kk : ∀ κ' : mj_K, mj_al n κ κ' → mj_X M RC RS dd κ' → mj_G κ' (x.handlerPc + i2.2.1, mj_put1 L k mj_u, [], h', cc + mc, cs + ms)) : mj_G κ (pc, L, st, h, cc, cs) := by
  subst hst
  obtain ⟨hcode', -, hinit', hown', hpl', hm1, hm2, hnp, hnl⟩ := mj_okA_Y hA'
  obtain ⟨p, l, e, R, s, m, args, below, meth, c, Q, σ, D, cT, base⟩ := κ
  have hX0 := hX
  obtain ⟨hx, hb, hml, hown, hts, hE, hini, hRC, hRS, hRd, hRl⟩ := hX
  obtain ⟨hst2, ⟨sa, hZ⟩, hNc⟩ := hz
  replace hth : c.exceptionTable.toList = tableOf hh := hth
  cases hcd : mj_cd M pc with
  | none => rw [hcd] at hi; cases hi
  | some i =>
    rw [hcd] at hi
    have hkat := mj_okB_K hA hcd
    have hdg := mj_decB hA hcd
    obtain ⟨ins, len, a, b, w, v⟩ := i
    unfold mj_isV at hi
    split at hi
    · rename_i idx a' b' w' v' heq
      cases heq
      simp only [Bool.and_eq_true] at hi
      have ha : a = M'.1 := Nat.eq_of_beq_eq_true hi.1
      have ha2 : a < 1000 := Nat.blt_eq.mp hi.2
      have hlink : lw_tbl[w]? = some (Cond.methodLink (mM_own M) idx (mM_y M')) := by
        simp only [mj_kat, Bool.or_eq_true, decide_eq_true_eq] at hkat
        rcases hkat with hk | hk
        · rw [ha] at hk; exact hk
        · exact absurd (Nat.le_of_ble_eq_true hk) (by omega)
      intro H locs ls hR hl
      obtain ⟨hr1, hr2, hr3⟩ := hroom
      have hd : d < dd := Nat.blt_eq.mp hr3
      have hT : GoodIn mj_tbl (wsV (mM_own M) idx (mM_y M').cls (mM_y M') (mj_wsM M')) := mj_good fun w hw => by
        unfold wsV at hw
        rcases List.mem_append.mp hw with hw | hw
        · simp only [List.mem_cons, List.not_mem_nil, or_false] at hw
          rcases hw with rfl | rfl | rfl | rfl
          · exact mj_in hlink rfl
          · exact mj_in hsel.2 rfl
          · exact mj_in hsel.1 rfl
          · exact hinit'
        · exact mj_goodM hA' w hw
      have cw : CallW R s args (mM_own M) (mM_y M').cls idx (mM_y M') (mM_cc M') (mM_nl M') (mM_ret M') (mj_wsM M') (mj_rm d mc ms) mc ms (mM_np M') := cwV (mM_np M') hts hT rfl rfl rfl ⟨rfl, hm1, hm2, hnp⟩ ⟨by show d + 1 ≤ R.frames; omega, by show 8 + (mM_nl M' + 11) + 64 * d ≤ R.locals; omega⟩
      unfold mj_rcv at hrc
      split at hrc
      · rename_i ci fs C T N hq hble hcl
        simp only [Bool.and_eq_true, decide_eq_true_eq] at hrc
        have hci : ci = M'.2.2.2.2.1 := Nat.eq_of_beq_eq_true hrc.1
        subst hci
        have hat := mj_at.own hble (mj_notJunk hcl) (hR.1 q _ hq)
        have hrv := va_recv hE.1 (mj_sg hat) hcl (q0 := 0) rfl
        have hcls : C = (mM_y M').cls := hrc.2.trans hown'.symm
        refine mx_after (rest := rest.map (mj_cv σ)) hR (vx_runV (As := As.map (mj_cv σ)) (b := σ q) (S := ⟨hx, hb, rfl, hown, hts⟩) (hC l hst2 σ D cT base sa) cw ⟨mj_Px.blind, by rw [← hcls]; exact hrv, fun U hU hW => ⟨⟨rfl, hE.call hR.2.2.2 hU hW, by rw [hU]; exact mj_R0.moved hW.alike ⟨hR.1, hR.2.1, hR.2.2.1⟩⟩, hZ.call hR.2.2.2 hU hW⟩⟩ rfl (by rw [List.length_map]; exact hn) hl.1 (by simp only [List.map_append, List.map_reverse, List.map_cons]; rfl) (lv_room (by rw [mj_catS]; exact Nat.le_of_ble_eq_true hw)) hdg ⟨Nat.le_trans (Nat.le_of_ble_eq_true hr1) hRC, Nat.le_trans (Nat.le_of_ble_eq_true hr2) hRS⟩) fun H1 locs1 q' ce j hR1 hce hcv hcl => ?_
        have hown2 : s.vm.findClass "WatershedMapLaw" = some m.cls := by rw [← hO]; exact hown
        refine vx_catch (own := "WatershedMapLaw") (name := E) hown2 pre x suf (hth.trans hsp) (fun z hz => ?_) hcov hx0 (hts _ (mj_in hlk rfl)) (va_Nw.use rfl (hZ.1 _ hE2)) hce hcv hcl ?_
        · rcases hpass z hz with q9 | ⟨q9, q8⟩
          · exact Or.inl q9
          · refine Or.inr ⟨by rw [q9]; decide, "java/lang/IndexOutOfBoundsException", ?_, by rw [q8]; exact hNc⟩
            rw [q9]
            exact hts _ (mj_in (p := 642) (by decide +kernel) rfl)
        · obtain ⟨ls2, e2, hl2⟩ := mj_storeU (u := .ref q') hl (i := k) (by rw [hml]; exact hk) rfl
          have hd2 := mj_decB hA hi2
          have hfin : ∀ (H2 : Heap) (locs2 : List Loc), mj_R σ D cT base s (h' ++ mj_jk j) H2 locs2 → W p l e R s m args below meth c H2 locs2 (cc + mc) (cs + ms) Q (F0 m (x.handlerPc + i2.2.1) ls2 []) := fun H2 locs2 hR2 => d_drop (M := M) (RC := RC) (RS := RS) (dd := dd) hnn hNE hP hLc (st := []) rfl (p, l, e, R, s, m, args, below, meth, c, Q, σ, D, cT, base) hX0 kk H2 locs2 ls2 hR2 hl2
          rcases hi3 with ⟨g1, g2⟩ | ⟨k4, g1, g2, g3⟩
          · rw [g1, g2] at hd2
            have hf2 := hfin H1 locs1 hR1
            rw [g2] at hf2
            exact mw_astore hx hb hd2 e2 hf2
          · rw [g1, g3] at hd2
            have hf2 := hfin H1 locs1 hR1
            rw [g3] at hf2
            rw [← g2] at e2
            exact mw_astore_n hx hb hd2 e2 hf2
      · cases hrc
    · cases hi
theorem g_callSWB {n : Nat} {y : MethodName} {hh : List (Nat × Nat × Nat × Nat)} {M M' : mj_M} {κ : mj_K} {RC RS dd : Nat} (hX : mj_X M RC RS dd κ) (hz : mj_Tz κ) (hA : mj_okB M = true) {pc : Nat} {L st As rest : List Value} {h h' : mj_H} {cc cs mc ms d : Nat} {r : Option Value} (hC : mj_Cw n y hh M' As h r h' mc ms d) {idx a b w : Nat} {v : Value} (hcd : mj_cd M pc = some (.invokestatic idx, 3, a, b, w, v)) {p1 p2 p4 : Nat} (hws : lw_tbl[w]? = some (Cond.methodLink (mM_own M) idx y) ∧ lw_tbl[p2]? = some (Cond.static y) ∧ lw_tbl[p4]? = some (Cond.initialized y.cls) ∧ lw_tbl[p1]? = some (Cond.codeWith y (mM_cc M') (mM_nl M') (mM_ret M') hh)) (hym : y.cls ≠ "java/lang/invoke/MethodHandle" ∧ y.cls ≠ "java/lang/invoke/VarHandle" ∧ (parseMethodDescriptor y.desc).map (fun d => d.parameters.length) = some (mM_np M')) (hnl : mM_nl M' ≤ 45) (hst : st = As.reverse ++ rest) (hn : As.length = mM_np M') (hw : Nat.ble ((rest.map fun v => v.category).sum) 8 = true) (hroom : Nat.ble (cc + mc) RC = true ∧ Nat.ble (cs + ms) RS = true ∧ Nat.blt d dd = true) (hNE : Nat.ble mj_NE n = true) (hLc : L.all (mj_clV n) = true) (hrc2 : rest.all (mj_clV n) = true) (k : ∀ κ' : mj_K, mj_al n κ κ' → mj_X M RC RS dd κ' → mj_G κ' (pc + 3, L, r.toList ++ rest, h', cc + mc, cs + ms)) : mj_G κ (pc, L, st, h, cc, cs) := by
  subst hst
  obtain ⟨p, l, e, R, s, m, args, below, meth, c, Q, σ, D, cT, base⟩ := κ
  obtain ⟨hx, hb, hml, hown, hts, hE, hini, hRC, hRS, hRd, hRl⟩ := hX
  obtain ⟨hst2, ⟨sa, hZ⟩, hNc⟩ := hz
  obtain ⟨hlink, hsta, hinit', hcode'⟩ := hws
  have hdg := mj_decB hA hcd
  intro H locs ls hR hl
  obtain ⟨hr1, hr2, hr3⟩ := hroom
  have hd : d < dd := Nat.blt_eq.mp hr3
  have hT : GoodIn mj_tbl (va_wsS (mM_own M) idx y (Cond.codeWith y (mM_cc M') (mM_nl M') (mM_ret M') hh :: mj_tbl)) := mj_good fun w hw => by
    unfold va_wsS at hw
    rcases List.mem_append.mp hw with hw | hw
    · simp only [List.mem_cons, List.not_mem_nil, or_false] at hw
      rcases hw with rfl | rfl | rfl
      · exact mj_in hlink rfl
      · exact mj_in hsta rfl
      · exact mj_in hinit' rfl
    · exact (List.mem_cons.mp hw).elim (fun e => e ▸ mj_in hcode' rfl) id
  have cw := vx_cwSW (R := R) (s := s) (args := args) (rm := mj_rm d mc ms) (mc := mc) (ms := ms) (mM_np M') hts hT rfl rfl rfl hym ⟨by show d + 1 ≤ R.frames; omega, by show 8 + (mM_nl M' + 11) + 64 * d ≤ R.locals; omega⟩
  refine mw_afterD (a := (As.map (mj_cv σ)).toArray) (rest := rest.map (mj_cv σ)) hR (vx_runSW (As := As.map (mj_cv σ)) (S := ⟨hx, hb, rfl, hown, hts⟩) (hC l hst2 σ D cT base sa) cw ⟨mj_Pw.blind, fun U hU hW => ⟨⟨⟨rfl, hE.call hR.2.2.2 hU hW, by rw [hU]; exact mj_R0.moved hW.alike ⟨hR.1, hR.2.1, hR.2.2.1⟩⟩, hZ.call hR.2.2.2 hU hW⟩, va_Nc.moved hW.alike hNc⟩⟩ rfl (by rw [List.length_map]; exact hn) hl.1 (by simp only [List.map_append, List.map_reverse]) (lv_room (by rw [mj_catS]; exact Nat.le_of_ble_eq_true hw)) hdg ⟨Nat.le_trans (Nat.le_of_ble_eq_true hr1) hRC, Nat.le_trans (Nat.le_of_ble_eq_true hr2) hRS⟩) fun H1 locs1 σ' hs1 hs2 hR1 => ?_
  have k' := k (p, l, e, R, s, m, args, below, meth, c, Q, σ', D, cT, base) ⟨σ', hs1, rfl⟩ ⟨hx, hb, hml, hown, hts, hE.agree (Nat.le_of_ble_eq_true hNE) hs1 hs2, hini, hRC, hRS, hRd, hRl⟩ H1 locs1 ls hR1 (hl.agree hs1 hLc)
  have e9 : (r.toList ++ rest).map (mj_cv σ') = (r.map (mj_cv σ')).toList ++ rest.map (mj_cv σ) := by
    rw [List.map_append, mj_clL_cv hs1 hrc2]
    cases r <;> rfl
  dsimp only at k'
  rw [e9] at k'
  exact k'
