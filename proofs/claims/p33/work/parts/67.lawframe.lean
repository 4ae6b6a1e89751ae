/-! THE LAW: a method whose own code is no word of the tables: runs, calls; forgetting locals; a wide iinc -/
def mj_okB (M : mj_M) : Bool := mj_okM M && mj_okF M && mj_okK M
theorem mj_okB_M {M : mj_M} (h : mj_okB M = true) : mj_okM M = true := by
  simp only [mj_okB, Bool.and_eq_true] at h
  exact h.1.1
theorem mj_okB_F {M : mj_M} (h : mj_okB M = true) : mj_okF M = true := by
  simp only [mj_okB, Bool.and_eq_true] at h
  exact h.1.2
theorem mj_okB_K {M : mj_M} (h : mj_okB M = true) {pc : Nat} {i : mj_I} (hi : mj_cd M pc = some i) : mj_kat M pc i = true := by
  have hl : pc < mM_len M := by
    unfold mj_cd at hi
    split at hi
    · rename_i h1
      exact Nat.blt_eq.mp h1
    · cases hi
  simp only [mj_okB, Bool.and_eq_true] at h
  have h1 := List.all_eq_true.mp h.2 pc (List.mem_range.mpr hl)
  rw [hi] at h1
  exact h1
theorem mj_decB {M : mj_M} (h : mj_okB M = true) {pc : Nat} {i : mj_I} (hi : mj_cd M pc = some i) : decode (mM_cc M) pc = .ok (i.1, i.2.1) := by
  have h1 := mj_okM_at (mj_okB_M h) hi
  obtain ⟨ins, len, a, b, w, v⟩ := i
  simp only [mj_okI, Bool.and_eq_true, decide_eq_true_eq] at h1
  exact h1.1
theorem g_toB {M : mj_M} {κ : mj_K} {RC RS dd : Nat} (hX : mj_X M RC RS dd κ) (hA : mj_okB M = true) (stop : Nat) (ds : List Bool) {g g' : mj_S} {P : Prop} (h : mj_run (mj_cd M) RC RS stop 200 ds g = some (P, g')) (hP : P) (k : mj_G κ g') : mj_G κ g := mj_simR hX (mj_okB_M hA) (mj_okB_F hA) 200 ds g g' P h hP k
theorem r_toB {M : mj_M} {RC RS dd : Nat} (hA : mj_okB M = true) (stop : Nat) (ds : List Bool) {g g' : mj_S} {P : Prop} (h : mj_run (mj_cd M) RC RS stop 200 ds g = some (P, g')) (hP : P) : mj_Rc M RC RS dd g g' := fun _ hX k => g_toB hX hA stop ds h hP k
theorem g_callIB {M M' : mj_M} {κ : mj_K} {RC RS dd : Nat} (hX : mj_X M RC RS dd κ) (hA : mj_okB M = true) (hA' : mj_okA M' = true) {pc q : Nat} {L st As rest : List Value} {h h' : mj_H} {cc cs mc ms d : Nat} (hC : mj_Ct M' (.ref q :: As) h none h' mc ms d) (hi : mj_isI (mj_cd M pc) M' = true) (hin2 : lw_tbl[mM_p2 M']? = some (Cond.instanceMethod (mM_y M'))) (hret : mM_ret M' = none) (hini' : mj_ini M' = true) (hst : st = As.reverse ++ .ref q :: rest) (hn : As.length = mM_np M') (hw : Nat.ble ((rest.map fun v => v.category).sum) 8 = true) (hroom : Nat.ble (cc + mc) RC = true ∧ Nat.ble (cs + ms) RS = true ∧ Nat.blt d dd = true) (k : mj_G κ (pc + 3, L, rest, h', cc + mc, cs + ms)) : mj_G κ (pc, L, st, h, cc, cs) := by
  subst hst
  obtain ⟨hcode', -, hinit', hown', hpl', hm1, hm2, hnp, hnl⟩ := mj_okA_Y hA'
  obtain ⟨p, l, e, R, s, m, args, below, meth, c, Q, σ, D, cT, base⟩ := κ
  obtain ⟨hx, hb, hml, hown, hts, hE, hini, hRC, hRS, hRd, hRl⟩ := hX
  have hnm : (mM_y M').name = "<init>" := of_decide_eq_true hini'
  cases hcd : mj_cd M pc with
  | none => rw [hcd] at hi; cases hi
  | some i =>
    rw [hcd] at hi
    have hkat := mj_okB_K hA hcd
    have hdg := mj_decB hA hcd
    obtain ⟨ins, len, a, b, w, v⟩ := i
    unfold mj_isI at hi
    split at hi
    · rename_i idx a' b' w' v' heq
      cases heq
      simp only [Bool.and_eq_true] at hi
      have ha : a = M'.1 := Nat.eq_of_beq_eq_true hi.1
      have ha2 : a < 1000 := Nat.blt_eq.mp hi.2
      obtain ⟨hr1, hr2, hr3⟩ := hroom
      have hd : d < dd := Nat.blt_eq.mp hr3
      intro H locs ls hR hl
      have hwsM : mj_wsM M' = Cond.code (mM_y M') (mM_cc M') (mM_nl M') none :: mj_tbl := by unfold mj_wsM; rw [hret]
      have hgM : GoodIn mj_tbl (mj_wsM M') := mj_good (mj_goodM hA')
      have hRm : (mj_rm d mc ms).frames + 1 ≤ R.frames ∧ 8 + (mM_nl M' + 11) + (mj_rm d mc ms).locals ≤ R.locals := ⟨by show d + 1 ≤ R.frames; omega, by show 8 + (mM_nl M' + 11) + 40 * d ≤ R.locals; omega⟩
      have fin : ∀ run : va_Run p l e R s m args below meth c H locs cc cs mc ms (F0 m pc ls ((As.reverse ++ .ref q :: rest).map (mj_cv σ))) (rest.map (mj_cv σ)) (mj_Qc σ D cT base none h' (Value.ref (σ q) :: As.map (mj_cv σ)).toArray) (fun q => base ≤ q), W p l e R s m args below meth c H locs cc cs Q (F0 m pc ls ((As.reverse ++ .ref q :: rest).map (mj_cv σ))) := fun run =>
        mw_after (a := (Value.ref (σ q) :: As.map (mj_cv σ)).toArray) (rest := rest.map (mj_cv σ)) hR run fun H1 locs1 hR1 => k H1 locs1 ls hR1 hl
      unfold mj_kat at hkat
      dsimp only at hkat
      split at hkat
      · omega
      · simp only [Bool.or_eq_true, decide_eq_true_eq] at hkat
        have hlink : lw_tbl[w]? = some (Cond.methodLink (mM_own M) idx (mM_y M')) := by
          rcases hkat with hk | hk
          · rw [ha] at hk; exact hk
          · exact absurd (Nat.le_of_ble_eq_true hk) (by omega)
        have cw := cwI (R := R) (rm := mj_rm d mc ms) (mM_np M') hts hgM hwsM rfl rfl (hts _ hinit') (hts _ (mj_in hlink rfl)) (hts _ (mj_in hin2 rfl)) hnm ⟨hm1, hm2, hnp⟩ hRm
        exact fin (va_runI (As := As.map (mj_cv σ)) (b := σ q) (S := ⟨hx, hb, rfl, hown, hts⟩) (hC l σ D cT base) cw ⟨mj_Pc.blind, fun U hU hW => ⟨rfl, hE.call hR.2.2.2 hU hW, by rw [hU]; exact mj_R0.moved hW.alike ⟨hR.1, hR.2.1, hR.2.2.1⟩⟩⟩ rfl (by rw [List.length_map]; exact hn) hl.1 (by simp only [List.map_append, List.map_reverse, List.map_cons]; rfl) (lv_room (by rw [mj_catS]; exact Nat.le_of_ble_eq_true hw)) hdg ⟨Nat.le_trans (Nat.le_of_ble_eq_true hr1) hRC, Nat.le_trans (Nat.le_of_ble_eq_true hr2) hRS⟩)
      · obtain ⟨z, hz1, hz2⟩ := List.any_eq_true.mp hkat
        split at hz2
        · rename_i o i y host
          obtain ⟨e1, e2, e3⟩ := of_decide_eq_true hz2
          rw [e1, e2, e3, ha] at hz1
          have cw := va_cnB (R := R) (s := s) (args := args) (rm := mj_rm d mc ms) (mM_np M') hts hgM hwsM rfl rfl (hE.2.1 _ hz1) (hts _ hinit') ⟨hm1, hm2, hnp⟩ hRm
          exact fin (va_runIN (As := As.map (mj_cv σ)) (b := σ q) (S := ⟨hx, hb, rfl, hown, hts⟩) (hC l σ D cT base) ⟨cw, hnm, hts _ (mj_in hin2 rfl)⟩ ⟨mj_Pc.blind, fun U hU hW => ⟨rfl, hE.call hR.2.2.2 hU hW, by rw [hU]; exact mj_R0.moved hW.alike ⟨hR.1, hR.2.1, hR.2.2.1⟩⟩⟩ rfl (by rw [List.length_map]; exact hn) hl.1 (by simp only [List.map_append, List.map_reverse, List.map_cons]; rfl) (lv_room (by rw [mj_catS]; exact Nat.le_of_ble_eq_true hw)) hdg ⟨Nat.le_trans (Nat.le_of_ble_eq_true hr1) hRC, Nat.le_trans (Nat.le_of_ble_eq_true hr2) hRS⟩)
        · cases hz2
    · cases hi
theorem r_IB {M M' : mj_M} {RC RS dd : Nat} (hA : mj_okB M = true) (hA' : mj_okA M' = true) (hin : lw_tbl[mM_p2 M']? = some (Cond.instanceMethod (mM_y M')) ∧ mM_ret M' = none ∧ mj_ini M' = true) {pc q : Nat} {L As st rest : List Value} {h h' : mj_H} {cc cs mc ms d : Nat} (hC : mj_Ct M' (.ref q :: As) h none h' mc ms d) (hst : st = As.reverse ++ .ref q :: rest) (hi : mj_isI (mj_cd M pc) M' = true) (hn : As.length = mM_np M') (hw : Nat.ble ((rest.map fun v => v.category).sum) 8 = true) (hroom : Nat.ble (cc + mc) RC = true ∧ Nat.ble (cs + ms) RS = true ∧ Nat.blt d dd = true) : mj_Rc M RC RS dd (pc, L, st, h, cc, cs) (pc + 3, L, rest, h', cc + mc, cs + ms) := fun _ hX k => g_callIB hX hA hA' hC hi hin.1 hin.2.1 hin.2.2 hst hn hw hroom k
theorem g_callVB {M M' : mj_M} {κ : mj_K} {RC RS dd : Nat} (hX : mj_X M RC RS dd κ) (hA : mj_okB M = true) (hA' : mj_okA M' = true) {pc q : Nat} {L st As rest : List Value} {h h' : mj_H} {cc cs mc ms d : Nat} {r : Option Value} (hC : mj_Ct M' (.ref q :: As) h r h' mc ms d) (hi : mj_isV (mj_cd M pc) M' = true) (hsel : lw_tbl[mM_p3 M']? = some (Cond.selects (mM_y M').cls (mM_y M') (mM_y M')) ∧ lw_tbl[mM_p2 M']? = some (Cond.instanceMethod (mM_y M'))) (hst : st = As.reverse ++ .ref q :: rest) (hn : As.length = mM_np M') (hrc : mj_rcv h q M' = true) (hw : Nat.ble ((rest.map fun v => v.category).sum) 8 = true) (hroom : Nat.ble (cc + mc) RC = true ∧ Nat.ble (cs + ms) RS = true ∧ Nat.blt d dd = true) (k : mj_G κ (pc + 3, L, r.toList ++ rest, h', cc + mc, cs + ms)) : mj_G κ (pc, L, st, h, cc, cs) := by
  subst hst
  obtain ⟨hcode', -, hinit', hown', hpl', hm1, hm2, hnp, hnl⟩ := mj_okA_Y hA'
  obtain ⟨p, l, e, R, s, m, args, below, meth, c, Q, σ, D, cT, base⟩ := κ
  obtain ⟨hx, hb, hml, hown, hts, hE, hini, hRC, hRS, hRd, hRl⟩ := hX
  cases hcd : mj_cd M pc with
  | none => rw [hcd] at hi; cases hi
  | some i =>
    rw [hcd] at hi
    have hkat := mj_okB_K hA hcd
    have hdg := mj_decB hA hcd
    obtain ⟨ins, len, a, b, w, v⟩ := i
    unfold mj_isV at hi
    split at hi
    · rename_i idx a' b' w' v' heq
      cases heq
      simp only [Bool.and_eq_true] at hi
      have ha : a = M'.1 := Nat.eq_of_beq_eq_true hi.1
      have ha2 : a < 1000 := Nat.blt_eq.mp hi.2
      have hlink : lw_tbl[w]? = some (Cond.methodLink (mM_own M) idx (mM_y M')) := by
        simp only [mj_kat, Bool.or_eq_true, decide_eq_true_eq] at hkat
        rcases hkat with hk | hk
        · rw [ha] at hk; exact hk
        · exact absurd (Nat.le_of_ble_eq_true hk) (by omega)
      intro H locs ls hR hl
      obtain ⟨hr1, hr2, hr3⟩ := hroom
      have hd : d < dd := Nat.blt_eq.mp hr3
      have hT : GoodIn mj_tbl (wsV (mM_own M) idx (mM_y M').cls (mM_y M') (mj_wsM M')) := mj_good fun w hw => by
        unfold wsV at hw
        rcases List.mem_append.mp hw with hw | hw
        · simp only [List.mem_cons, List.not_mem_nil, or_false] at hw
          rcases hw with rfl | rfl | rfl | rfl
          · exact mj_in hlink rfl
          · exact mj_in hsel.2 rfl
          · exact mj_in hsel.1 rfl
          · exact hinit'
        · exact mj_goodM hA' w hw
      have cw : CallW R s args (mM_own M) (mM_y M').cls idx (mM_y M') (mM_cc M') (mM_nl M') (mM_ret M') (mj_wsM M') (mj_rm d mc ms) mc ms (mM_np M') := cwV (mM_np M') hts hT rfl rfl rfl ⟨rfl, hm1, hm2, hnp⟩ ⟨by show d + 1 ≤ R.frames; omega, by show 8 + (mM_nl M' + 11) + 40 * d ≤ R.locals; omega⟩
      unfold mj_rcv at hrc
      split at hrc
      · rename_i ci fs C T N hq hble hcl
        simp only [Bool.and_eq_true, decide_eq_true_eq] at hrc
        have hci : ci = M'.2.2.2.2.1 := Nat.eq_of_beq_eq_true hrc.1
        subst hci
        have hat := mj_at.own hble (mj_notJunk hcl) (hR.1 q _ hq)
        have hrv := va_recv hE.1 (mj_sg hat) hcl (q0 := 0) rfl
        have hcls : C = (mM_y M').cls := hrc.2.trans hown'.symm
        refine mw_after (a := (Value.ref (σ q) :: As.map (mj_cv σ)).toArray) (rest := rest.map (mj_cv σ)) hR (va_runV (As := As.map (mj_cv σ)) (b := σ q) (S := ⟨hx, hb, rfl, hown, hts⟩) (hC l σ D cT base) cw ⟨mj_Pc.blind, by rw [← hcls]; exact hrv, fun U hU hW => ⟨rfl, hE.call hR.2.2.2 hU hW, by rw [hU]; exact mj_R0.moved hW.alike ⟨hR.1, hR.2.1, hR.2.2.1⟩⟩⟩ rfl (by rw [List.length_map]; exact hn) hl.1 (by simp only [List.map_append, List.map_reverse, List.map_cons]; rfl) (lv_room (by rw [mj_catS]; exact Nat.le_of_ble_eq_true hw)) hdg ⟨Nat.le_trans (Nat.le_of_ble_eq_true hr1) hRC, Nat.le_trans (Nat.le_of_ble_eq_true hr2) hRS⟩) fun H1 locs1 hR1 => ?_
        have k' := k H1 locs1 ls hR1 hl
        have e9 : (r.toList ++ rest).map (mj_cv σ) = (r.map (mj_cv σ)).toList ++ rest.map (mj_cv σ) := by cases r <;> rfl
        simp only [e9] at k'
        exact k'
      · cases hrc
    · cases hi
theorem g_callSB {M M' : mj_M} {κ : mj_K} {RC RS dd : Nat} (hX : mj_X M RC RS dd κ) (hA : mj_okB M = true) (hA' : mj_okA M' = true) {pc : Nat} {L st As rest : List Value} {h h' : mj_H} {cc cs mc ms d : Nat} {r : Option Value} (hC : mj_Ct M' As h r h' mc ms d) (hi : mj_isS (mj_cd M pc) M' = true) (hsta : lw_tbl[mM_p2 M']? = some (Cond.static (mM_y M'))) (hst : st = As.reverse ++ rest) (hn : As.length = mM_np M') (hw : Nat.ble ((rest.map fun v => v.category).sum) 8 = true) (hroom : Nat.ble (cc + mc) RC = true ∧ Nat.ble (cs + ms) RS = true ∧ Nat.blt d dd = true) (k : mj_G κ (pc + 3, L, r.toList ++ rest, h', cc + mc, cs + ms)) : mj_G κ (pc, L, st, h, cc, cs) := by
  subst hst
  obtain ⟨hcode', -, hinit', hown', hpl', hm1, hm2, hnp, hnl⟩ := mj_okA_Y hA'
  obtain ⟨p, l, e, R, s, m, args, below, meth, c, Q, σ, D, cT, base⟩ := κ
  obtain ⟨hx, hb, hml, hown, hts, hE, hini, hRC, hRS, hRd, hRl⟩ := hX
  cases hcd : mj_cd M pc with
  | none => rw [hcd] at hi; cases hi
  | some i =>
    rw [hcd] at hi
    have hkat := mj_okB_K hA hcd
    have hdg := mj_decB hA hcd
    obtain ⟨ins, len, a, b, w, v⟩ := i
    unfold mj_isS at hi
    split at hi
    · rename_i idx a' b' w' v' heq
      cases heq
      simp only [Bool.and_eq_true] at hi
      have ha : a = M'.1 := Nat.eq_of_beq_eq_true hi.1
      have ha2 : a < 1000 := Nat.blt_eq.mp hi.2
      have hlink : lw_tbl[w]? = some (Cond.methodLink (mM_own M) idx (mM_y M')) := by
        unfold mj_kat at hkat
        dsimp only at hkat
        split at hkat
        · omega
        · simp only [Bool.or_eq_true, decide_eq_true_eq] at hkat
          rcases hkat with hk | hk
          · rw [ha] at hk; exact hk
          · exact absurd (Nat.le_of_ble_eq_true hk) (by omega)
      intro H locs ls hR hl
      obtain ⟨hr1, hr2, hr3⟩ := hroom
      have hd : d < dd := Nat.blt_eq.mp hr3
      have hT : GoodIn mj_tbl (va_wsS (mM_own M) idx (mM_y M') (mj_wsM M')) := mj_good fun w hw => by
        unfold va_wsS at hw
        rcases List.mem_append.mp hw with hw | hw
        · simp only [List.mem_cons, List.not_mem_nil, or_false] at hw
          rcases hw with rfl | rfl | rfl
          · exact mj_in hlink rfl
          · exact mj_in hsta rfl
          · exact hinit'
        · exact mj_goodM hA' w hw
      have cw := va_cwS (R := R) (s := s) (args := args) (bytes := mM_cc M') (maxL := mM_nl M') (ret := mM_ret M') (rm := mj_rm d mc ms) (mM_np M') hts hT rfl rfl rfl ⟨hm1, hm2, hnp⟩ ⟨by show d + 1 ≤ R.frames; omega, by show 8 + (mM_nl M' + 11) + 40 * d ≤ R.locals; omega⟩
      refine mw_after (a := (As.map (mj_cv σ)).toArray) (rest := rest.map (mj_cv σ)) hR (va_runS (As := As.map (mj_cv σ)) (S := ⟨hx, hb, rfl, hown, hts⟩) (hC l σ D cT base) cw ⟨mj_Pc.blind, fun U hU hW => ⟨rfl, hE.call hR.2.2.2 hU hW, by rw [hU]; exact mj_R0.moved hW.alike ⟨hR.1, hR.2.1, hR.2.2.1⟩⟩⟩ rfl (by rw [List.length_map]; exact hn) hl.1 (by simp only [List.map_append, List.map_reverse]) (lv_room (by rw [mj_catS]; exact Nat.le_of_ble_eq_true hw)) hdg ⟨Nat.le_trans (Nat.le_of_ble_eq_true hr1) hRC, Nat.le_trans (Nat.le_of_ble_eq_true hr2) hRS⟩) fun H1 locs1 hR1 => ?_
      have k' := k H1 locs1 ls hR1 hl
      have e9 : (r.toList ++ rest).map (mj_cv σ) = (r.map (mj_cv σ)).toList ++ rest.map (mj_cv σ) := by cases r <;> rfl
      simp only [e9] at k'
      exact k'
    · cases hi
theorem r_VB {M M' : mj_M} {RC RS dd : Nat} (hA : mj_okB M = true) (hA' : mj_okA M' = true) (hsel : lw_tbl[mM_p3 M']? = some (Cond.selects (mM_y M').cls (mM_y M') (mM_y M')) ∧ lw_tbl[mM_p2 M']? = some (Cond.instanceMethod (mM_y M'))) {pc q : Nat} {L As st rest : List Value} {h h' : mj_H} {cc cs mc ms d : Nat} {r : Option Value} (hC : mj_Ct M' (.ref q :: As) h r h' mc ms d) (hst : st = As.reverse ++ .ref q :: rest) (hi : mj_isV (mj_cd M pc) M' = true) (hn : As.length = mM_np M') (hrc : mj_rcv h q M' = true) (hw : Nat.ble ((rest.map fun v => v.category).sum) 8 = true) (hroom : Nat.ble (cc + mc) RC = true ∧ Nat.ble (cs + ms) RS = true ∧ Nat.blt d dd = true) : mj_Rc M RC RS dd (pc, L, st, h, cc, cs) (pc + 3, L, r.toList ++ rest, h', cc + mc, cs + ms) := fun _ hX k => g_callVB hX hA hA' hC hi hsel hst hn hrc hw hroom k
theorem r_SB {M M' : mj_M} {RC RS dd : Nat} (hA : mj_okB M = true) (hA' : mj_okA M' = true) (hsta : lw_tbl[mM_p2 M']? = some (Cond.static (mM_y M'))) {pc : Nat} {L As st rest : List Value} {h h' : mj_H} {cc cs mc ms d : Nat} {r : Option Value} (hC : mj_Ct M' As h r h' mc ms d) (hst : st = As.reverse ++ rest) (hi : mj_isS (mj_cd M pc) M' = true) (hn : As.length = mM_np M') (hw : Nat.ble ((rest.map fun v => v.category).sum) 8 = true) (hroom : Nat.ble (cc + mc) RC = true ∧ Nat.ble (cs + ms) RS = true ∧ Nat.blt d dd = true) : mj_Rc M RC RS dd (pc, L, st, h, cc, cs) (pc + 3, L, r.toList ++ rest, h', cc + mc, cs + ms) := fun _ hX k => g_callSB hX hA hA' hC hi hsta hst hn hw hroom k
def mj_fg : List Bool → List Value → List Value
  | true :: bs, v :: r => v :: mj_fg bs r
  | false :: bs, _ :: r => mj_u :: mj_fg bs r
  | _, _ => []
theorem mj_fg_at : ∀ (bs : List Bool) (L : List Value) (i : Nat) (v : Value), (mj_fg bs L)[i]? = some v → v ≠ mj_u → L[i]? = some v := by
  intro bs
  induction bs with
  | nil => intro L i v h _; unfold mj_fg at h; simp at h
  | cons c bs ih =>
    intro L i v h hv
    cases L with
    | nil => cases c <;> (unfold mj_fg at h; simp at h)
    | cons w r =>
      cases c with
      | true =>
        unfold mj_fg at h
        match i, h with
        | 0, h => exact h
        | i + 1, h => exact ih r i v h hv
      | false =>
        unfold mj_fg at h
        match i, h with
        | 0, h => exact absurd (Option.some.inj h).symm hv
        | i + 1, h => exact ih r i v h hv
theorem r_fg {M : mj_M} {RC RS dd : Nat} (bs : List Bool) {pc : Nat} {L st : List Value} {h : mj_H} {cc cs : Nat} : mj_Rc M RC RS dd (pc, L, st, h, cc, cs) (pc, mj_fg bs L, st, h, cc, cs) := fun κ _ k => by
  obtain ⟨p, l, e, R, s, m, args, below, meth, c, Q, σ, D, cT, base⟩ := κ
  intro H locs ls hR hl
  exact k H locs ls hR ⟨hl.1, hl.2.1, fun i v hi hv => hl.2.2 i v (mj_fg_at bs L i v hi hv) hv⟩
section WIDE1
variable {p : Program} {l : Launch} {e : Env} {R : Room} {s : State} {m : MethodId} {args : Array Value} {below : List Frame} {meth : Method} {c : Code} {H : Heap} {locs : List Loc} {cells slots : Nat} {Q : State → Prop}
variable {cc : ByteArray} {pc : Nat} {ls ls' : Array Slot} {rest : List Value}
theorem mw_iincW (hexec : p.tables.exec = Jvm.exec) (hb : c.code = cc) {i : Nat} {n : Int} {x : Int32} (hdg : decode cc pc = .ok (.iinc i n, 6)) (hg : ls[i]? = some (.val (.int x))) (e' : storeLocals ls i (.int (x + Int32.ofInt n)) = some ls')
    (k : W p l e R s m args below meth c H locs cells slots Q (F0 m (pc + 6) ls' rest)) : W p l e R s m args below meth c H locs cells slots Q (F0 m pc ls rest) := by
  intro T hT X
  obtain ⟨t, a, b⟩ := k T hT X
  refine ⟨t, ?_, b⟩
  jvm_step X.here [X.here.top, ↓top_set X.here.top, hexec, hb, hdg, hg, e']
  exact a
end WIDE1
theorem r_iincW {M : mj_M} {RC RS dd : Nat} {pc i : Nat} {n : Int} (hA : decode (mM_cc M) pc = .ok (.iinc i n, 6)) {L st : List Value} {h : mj_H} {cc cs : Nat} {x : Int32} (hL : L[i]? = some (.int x)) (hi : i < mM_nl M) : mj_Rc M RC RS dd (pc, L, st, h, cc, cs) (pc + 6, mj_put1 L i (.int (x + Int32.ofInt n)), st, h, cc, cs) := by
  intro κ hX k
  obtain ⟨p, l, e, R, s, m, args, below, meth, c, Q, σ, D, cT, base⟩ := κ
  obtain ⟨hx, hb, hml, -⟩ := hX
  intro H locs ls hR hl
  obtain ⟨ls', e', hl'⟩ := mj_store1 hl (v := .int (x + Int32.ofInt n)) (by rw [hml]; exact hi) rfl
  exact mw_iincW hx hb hA (hl.at hL mj_ni) e' (k H locs ls' hR hl')
