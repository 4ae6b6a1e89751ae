/-! CONTRACTS whose new cells may lie anywhere: the names from n on may mean others behind the call -/
def mj_nm (base : Nat) (σ : Nat → Nat) : Prop := (∀ i, Nat.ble mj_NE i = true → base ≤ σ i) ∧ (∀ i j, Nat.ble mj_NE i = true → Nat.ble mj_NE j = true → σ i = σ j → i = j)
def mj_Qd (n : Nat) (σ : Nat → Nat) (D : va_G) (cT : FieldType → ClassId) (base : Nat) (r : Option Value) (h' : mj_H) : Array Value → State → Outcome → State → Prop := fun a st o t => ∃ σ' : Nat → Nat, (∀ i, i < n → σ' i = σ i) ∧ mj_nm base σ' ∧ mj_Qc σ' D cT base r h' a st o t
def mj_Cd (n : Nat) (M : mj_M) (as : List Value) (h : mj_H) (r : Option Value) (h' : mj_H) (mc ms d : Nat) : Prop :=
  ∀ (l : Launch) (σ : Nat → Nat) (D : va_G) (cT : FieldType → ClassId) (base : Nat), Met l (mM_y M) (mj_wsM M) (mj_rm d mc ms) (mj_Pc σ D cT base as h) (mj_Qd n σ D cT base r h') mc ms (fun q => base ≤ q)
theorem cd_of {n : Nat} {M : mj_M} {as : List Value} {h : mj_H} {r : Option Value} {h' : mj_H} {mc ms d : Nat} (hC : mj_Ct M as h r h' mc ms d) : mj_Cd n M as h r h' mc ms d := fun l σ D cT base => MetFree.mono (hC l σ D cT base) (fun _ _ hp => hp) (fun _ _ _ _ _ hh => hh) (fun _ _ _ _ hp hq => ⟨⟨σ, fun _ _ => rfl, hp.2.1.2.2.2.2, hq.1⟩, hq.2⟩)
theorem cd_le {n k : Nat} {M : mj_M} {as : List Value} {h : mj_H} {r : Option Value} {h' : mj_H} {mc ms d : Nat} (hk : Nat.ble k n = true) (hC : mj_Cd n M as h r h' mc ms d) : mj_Cd k M as h r h' mc ms d := fun l σ D cT base => MetFree.mono (hC l σ D cT base) (fun _ _ hp => hp) (fun _ _ _ _ _ hh => hh) (fun _ _ _ _ _ hq => by
  obtain ⟨⟨σ', h1, h2, h3⟩, h4⟩ := hq
  exact ⟨⟨σ', fun i hi => h1 i (Nat.lt_of_lt_of_le hi (Nat.le_of_ble_eq_true hk)), h2, h3⟩, h4⟩)
def mj_FinD (n : Nat) (M : mj_M) (κ : mj_K) (r : Option Value) (h' : mj_H) (mc ms d : Nat) : Prop := ∀ κ' : mj_K, mj_al n κ κ' → mj_X M mc ms d κ' → ∀ (pc : Nat) (L : List Value) (cc cs : Nat) (i : mj_I), mj_cd M pc = some i → mj_isR (mM_ret M) r i → cc ≤ mc → cs ≤ ms → mj_G κ' (pc, L, r.toList, h', cc, cs)
theorem mj_introD {n : Nat} {M : mj_M} {as : List Value} {h : mj_H} {r : Option Value} {h' : mj_H} {mc ms d : Nat} (hA : mj_okA M = true) (hl : Nat.ble (lg_sl as).length (mM_nl M) = true) (body : ∀ κ : mj_K, mj_X M mc ms d κ → mj_FinD n M κ r h' mc ms d → mj_G κ (0, mj_ent as (mM_nl M), [], h, 0, 0)) : mj_Cd n M as h r h' mc ms d := by
  obtain ⟨hcode, -, hinit, hown', hpl, -, -, -, -⟩ := mj_okA_Y hA
  intro l σ D cT base
  refine mw_ofW (cc := mM_cc M) (maxL := mM_nl M) (ret := mM_ret M) hpl rfl ?_
  intro p e s m args below meth c s₁ B hml hv
  obtain ⟨rfl, hE, hR⟩ := hv
  have hts0 := atoms_spec (ws := mj_wsM M) B.pre
  have hts : ∀ w ∈ mj_tbl, w.before _ s = true := fun w hw => hts0 w (List.mem_cons_of_mem _ hw)
  have hown : s.vm.findClass (mM_own M) = some m.cls := hown' ▸ findClass_of_methodNamed B.named
  have hlocks := B.notSynchronized
  have hin : mj_ini M = true → meth.name = "<init>" := fun h => ((name_of_methodNamed B.named B.method).1).trans (of_decide_eq_true h)
  have hlen : (lg_sl (as.map (mj_cv σ))).length ≤ mM_nl M := by rw [lg_sl_cv]; exact Nat.le_of_ble_eq_true hl
  have hle := lv_entry (as.map (mj_cv σ)) (n := mM_nl M) hlen
  rw [lg_entry_eq]
  generalize (lg_sl (as.map (mj_cv σ)) ++ List.replicate (mM_nl M - (lg_sl (as.map (mj_cv σ))).length) Slot.unset).toArray = ls at hle ⊢
  have hX : mj_X M mc ms d (p, l, e, (headSpec (mj_wsM M) (mj_rm d mc ms)).room, s, m, (as.map (mj_cv σ)).toArray, below, meth, c, MQ below (mj_Qd n σ D cT base r h') (as.map (mj_cv σ)).toArray s mc ms (fun q => base ≤ q), σ, D, cT, base) := ⟨B.exec, B.bytes, hml, hown, hts, hE, hin, Nat.le_refl _, Nat.le_refl _, Nat.le_refl _, Nat.le_refl _⟩
  have hF : mj_FinD n M (p, l, e, (headSpec (mj_wsM M) (mj_rm d mc ms)).room, s, m, (as.map (mj_cv σ)).toArray, below, meth, c, MQ below (mj_Qd n σ D cT base r h') (as.map (mj_cv σ)).toArray s mc ms (fun q => base ≤ q), σ, D, cT, base) r h' mc ms d := by
    intro κ' hal hX' pc L cc cs i hi hr hc1 hc2
    obtain ⟨σ', hσ', rfl⟩ := hal
    obtain ⟨-, -, -, -, -, hE', -, -, -, -, -⟩ := hX'
    intro H locs ls' hR' hl'
    replace hR' : mj_R σ' D cT base s h' H locs := hR'
    show W p l e _ s m _ below meth c H locs cc cs _ (F0 m pc ls' (r.toList.map (mj_cv σ')))
    have hdg := mj_dec hA hi
    obtain ⟨ins, len, a, b, w, v⟩ := i
    refine W.widen hc1 hc2 ?_
    have hq : ∀ t : State, t.heap = H → s.WarmedH t.vm → mj_Qd n σ D cT base r h' (as.map (mj_cv σ)).toArray s (.returned (r.map (mj_cv σ'))) t := fun t ht hW => ⟨σ', hσ', hE'.2.2.2.2, rfl, by rw [ht]; exact mj_R0.moved (s := s) hW.alike ⟨hR'.1, hR'.2.1, hR'.2.2.1⟩, hR'.2.2.2.F ht⟩
    have hf : ∀ q ∈ locs, base ≤ q.base := hR'.2.2.2.2.2
    unfold mj_isR at hr
    have hret := B.returns
    dsimp only at hr hdg hq ⊢
    split at hr
    · rename_i e3
      rw [e3] at hret
      rw [hr] at hdg
      exact W.iret B.exec B.bytes hret hq hf hdg
    · rename_i e3
      rw [e3] at hret
      rw [hr.1] at hdg
      exact W.zret B.exec B.bytes hret hr.2 hq hf hdg
    · rename_i e3
      rw [e3] at hret
      rw [hr] at hdg
      exact W.lret B.exec B.bytes hret hq hf hdg
    · rename_i e3
      rw [e3] at hret
      rw [hr] at hdg
      exact W.dret B.exec B.bytes hret hq hf hdg
    · rename_i e3
      rw [e3] at hret
      rw [hr] at hdg
      exact W.aret B.exec B.bytes hret (Or.inl ⟨_, rfl⟩) (Or.inr ⟨_, rfl⟩) hq hf hdg
    · rename_i e3
      rw [e3] at hret
      rw [hr] at hdg
      exact W.aret B.exec B.bytes hret (Or.inr ⟨_, rfl⟩) (Or.inr ⟨_, rfl⟩) hq hf hdg
    · rename_i e3
      rw [e3] at hret
      rw [hr] at hdg
      exact W.vret B.exec B.bytes hret hq hf hdg
    · exact absurd hr id
  refine body _ hX hF s.heap [] ls ⟨hR.1, hR.2.1, hR.2.2, va_S.rf⟩ ⟨by rw [hml]; exact hle.1, hle.2.1, fun i v hi hv => ?_⟩
  have h2 : (mj_entA as)[i]? = some v := by
    unfold mj_ent at hi
    by_cases hlt : i < (mj_entA as).length
    · rw [List.getElem?_append_left hlt] at hi
      exact hi
    · rw [List.getElem?_append_right (by omega)] at hi
      exact absurd (List.eq_of_mem_replicate (List.mem_of_getElem? hi)) hv
  have h3 := mj_entA_in (σ := σ) as 0 i v h2 hv
  rw [Nat.zero_add] at h3
  exact hle.2.2 (i, mj_cv σ v) h3
theorem ct_d {M : mj_M} (hA : mj_okA M = true) {as : List Value} {h : mj_H} {r : Option Value} {h' : mj_H} {mc ms d n : Nat} {pc : Nat} {L st : List Value} {cc cs : Nat} {i : mj_I} (hl : Nat.ble (lg_sl as).length (mM_nl M) = true) (hR : mj_Rd M mc ms d n (0, mj_ent as (mM_nl M), [], h, 0, 0) (pc, L, st, h', cc, cs)) (hst : st = r.toList) (hi : mj_cd M pc = some i) (hr : mj_isR (mM_ret M) r i) (hc : Nat.ble cc mc = true) (hs : Nat.ble cs ms = true) : mj_Cd n M as h r h' mc ms d := mj_introD hA hl fun κ hX hF => hR κ hX fun κ' hal hX' => by
  subst hst
  exact hF κ' hal hX' pc L cc cs i hi hr (Nat.le_of_ble_eq_true hc) (Nat.le_of_ble_eq_true hs)
theorem mj_E.agree {n : Nat} {σ σ' : Nat → Nat} {D : va_G} {cT : FieldType → ClassId} {base : Nat} {U : State} (hn : mj_NE ≤ n) (hs : ∀ i, i < n → σ' i = σ i) (hm : mj_nm base σ') (hE : mj_E σ D cT base U) : mj_E σ' D cT base U := by
  obtain ⟨h1, h2, h3, h4, h5⟩ := hE
  refine ⟨h1, h2, fun i q hq => ?_, h4, hm⟩
  rw [hs i (Nat.lt_of_lt_of_le (mj_stNE hq) hn)]
  exact h3 i q hq
theorem mj_has.agree {n : Nat} {σ σ' : Nat → Nat} {ls : Array Slot} {nL : Nat} {L : List Value} (hs : ∀ i, i < n → σ' i = σ i) (hL : L.all (mj_clV n) = true) (h : mj_has σ ls nL L) : mj_has σ' ls nL L := ⟨h.1, h.2.1, fun i v hi hv => by
  rw [mj_clV_cv hs (List.all_eq_true.mp hL v (List.mem_of_getElem? hi))]
  exact h.2.2 i v hi hv⟩
section CLD
variable {p : Program} {l : Launch} {e : Env} {R : Room} {s : State} {m : MethodId} {args : Array Value} {below : List Frame} {meth : Method} {c : Code} {H : Heap} {locs : List Loc} {cells slots : Nat} {Q : State → Prop}
theorem mw_afterD {n : Nat} {σ : Nat → Nat} {D : va_G} {cT : FieldType → ClassId} {base : Nat} {h : mj_H} {r : Option Value} {h' : mj_H} {mc ms : Nat} {a : Array Value} {pc : Nat} {ls : Array Slot} {st0 rest : List Value} (hR : mj_R σ D cT base s h H locs)
    (hr : va_Run p l e R s m args below meth c H locs cells slots mc ms (F0 m pc ls st0) rest (mj_Qd n σ D cT base r h' a) (fun q => base ≤ q))
    (k : ∀ (H1 : Heap) (locs1 : List Loc) (σ' : Nat → Nat), (∀ i, i < n → σ' i = σ i) → mj_nm base σ' → mj_R σ' D cT base s h' H1 locs1 → W p l e R s m args below meth c H1 locs1 (cells + mc) (slots + ms) Q (F0 m (pc + 3) ls ((r.map (mj_cv σ')).toList ++ rest))) : W p l e R s m args below meth c H locs cells slots Q (F0 m pc ls st0) := by
  intro T hT X
  obtain ⟨v, st₀, t, T', L, h0, X', hL, e1, e2, ⟨σ', hσ1, hσ2, hv, hb, hz, hk⟩, st⟩ := hr T hT X
  cases hv
  rw [h0] at hz hk
  have hal : t.vm.Alike s.vm := by rw [← e2]; exact X'.warmed.alike.symm
  obtain ⟨t2, a1, b1⟩ := k T'.heap (locs ++ L) σ' hσ1 hσ2 ⟨fun i c hi => by rw [e1]; exact (hb.1 i c hi).moved hal, by rw [e1]; exact hb.2.1, hb.2.2, ⟨Nat.le_trans hR.2.2.2.1 (by rw [e1]; exact hz), fun q h1 h2 => by
      rw [e1, hk q (Nat.lt_of_lt_of_le h1 hR.2.2.2.1) h2]
      exact hR.2.2.2.2.1 q h1 h2, fun q hq => by
      rcases List.mem_append.mp hq with h | h
      · exact hR.2.2.2.2.2 q h
      · exact hL q h⟩⟩ T' rfl X'
  exact ⟨t2, st t2 a1, b1⟩
end CLD
theorem g_callVD {n : Nat} {M M' : mj_M} {κ : mj_K} {RC RS dd : Nat} (hX : mj_X M RC RS dd κ) (hA : mj_okA M = true) (hA' : mj_okA M' = true) {pc q : Nat} {L st As rest : List Value} {h h' : mj_H} {cc cs mc ms d : Nat} {r : Option Value} (hC : mj_Cd n M' (.ref q :: As) h r h' mc ms d) (hi : mj_isV (mj_cd M pc) M' = true) (hsel : lw_tbl[mM_p3 M']? = some (Cond.selects (mM_y M').cls (mM_y M') (mM_y M')) ∧ lw_tbl[mM_p2 M']? = some (Cond.instanceMethod (mM_y M'))) (hst : st = As.reverse ++ .ref q :: rest) (hn : As.length = mM_np M') (hrc : mj_rcv h q M' = true) (hw : Nat.ble ((rest.map fun v => v.category).sum) 8 = true) (hroom : Nat.ble (cc + mc) RC = true ∧ Nat.ble (cs + ms) RS = true ∧ Nat.blt d dd = true) (hNE : Nat.ble mj_NE n = true) (hLc : L.all (mj_clV n) = true) (hrc2 : rest.all (mj_clV n) = true) (k : ∀ κ' : mj_K, mj_al n κ κ' → mj_X M RC RS dd κ' → mj_G κ' (pc + 3, L, r.toList ++ rest, h', cc + mc, cs + ms)) : mj_G κ (pc, L, st, h, cc, cs) := by
  subst hst
  obtain ⟨hcode', -, hinit', hown', hpl', hm1, hm2, hnp, hnl⟩ := mj_okA_Y hA'
  obtain ⟨p, l, e, R, s, m, args, below, meth, c, Q, σ, D, cT, base⟩ := κ
  obtain ⟨hx, hb, hml, hown, hts, hE, hini, hRC, hRS, hRd, hRl⟩ := hX
  cases hcd : mj_cd M pc with
  | none => rw [hcd] at hi; cases hi
  | some i =>
    rw [hcd] at hi
    have hkat := mj_okA_K hA hcd
    have hdg := mj_dec hA hcd
    obtain ⟨ins, len, a, b, w, v⟩ := i
    unfold mj_isV at hi
    split at hi
    · rename_i idx a' b' w' v' heq
      cases heq
      simp only [Bool.and_eq_true] at hi
      have ha : a = M'.1 := Nat.eq_of_beq_eq_true hi.1
      have ha2 : a < 1000 := Nat.blt_eq.mp hi.2
      have hlink : lw_tbl[w]? = some (Cond.methodLink (mM_own M) idx (mM_y M')) := by
        simp only [mj_kat, Bool.or_eq_true, decide_eq_true_eq] at hkat
        rcases hkat with hk | hk
        · rw [ha] at hk; exact hk
        · exact absurd (Nat.le_of_ble_eq_true hk) (by omega)
      intro H locs ls hR hl
      obtain ⟨hr1, hr2, hr3⟩ := hroom
      have hd : d < dd := Nat.blt_eq.mp hr3
      have hT : GoodIn mj_tbl (wsV (mM_own M) idx (mM_y M').cls (mM_y M') (mj_wsM M')) := mj_good fun w hw => by
        unfold wsV at hw
        rcases List.mem_append.mp hw with hw | hw
        · simp only [List.mem_cons, List.not_mem_nil, or_false] at hw
          rcases hw with rfl | rfl | rfl | rfl
          · exact mj_in hlink rfl
          · exact mj_in hsel.2 rfl
          · exact mj_in hsel.1 rfl
          · exact hinit'
        · exact mj_goodM hA' w hw
      have cw : CallW R s args (mM_own M) (mM_y M').cls idx (mM_y M') (mM_cc M') (mM_nl M') (mM_ret M') (mj_wsM M') (mj_rm d mc ms) mc ms (mM_np M') := cwV (mM_np M') hts hT rfl rfl rfl ⟨rfl, hm1, hm2, hnp⟩ ⟨by show d + 1 ≤ R.frames; omega, by show 8 + (mM_nl M' + 11) + 64 * d ≤ R.locals; omega⟩
      unfold mj_rcv at hrc
      split at hrc
      · rename_i ci fs C T N hq hble hcl
        simp only [Bool.and_eq_true, decide_eq_true_eq] at hrc
        have hci : ci = M'.2.2.2.2.1 := Nat.eq_of_beq_eq_true hrc.1
        subst hci
        have hat := mj_at.own hble (mj_notJunk hcl) (hR.1 q _ hq)
        have hrv := va_recv hE.1 (mj_sg hat) hcl (q0 := 0) rfl
        have hcls : C = (mM_y M').cls := hrc.2.trans hown'.symm
        refine mw_afterD (a := (Value.ref (σ q) :: As.map (mj_cv σ)).toArray) (rest := rest.map (mj_cv σ)) hR (va_runV (As := As.map (mj_cv σ)) (b := σ q) (S := ⟨hx, hb, rfl, hown, hts⟩) (hC l σ D cT base) cw ⟨mj_Pc.blind, by rw [← hcls]; exact hrv, fun U hU hW => ⟨rfl, hE.call hR.2.2.2 hU hW, by rw [hU]; exact mj_R0.moved hW.alike ⟨hR.1, hR.2.1, hR.2.2.1⟩⟩⟩ rfl (by rw [List.length_map]; exact hn) hl.1 (by simp only [List.map_append, List.map_reverse, List.map_cons]; rfl) (lv_room (by rw [mj_catS]; exact Nat.le_of_ble_eq_true hw)) hdg ⟨Nat.le_trans (Nat.le_of_ble_eq_true hr1) hRC, Nat.le_trans (Nat.le_of_ble_eq_true hr2) hRS⟩) fun H1 locs1 σ' hs1 hs2 hR1 => ?_
        have k' := k (p, l, e, R, s, m, args, below, meth, c, Q, σ', D, cT, base) ⟨σ', hs1, rfl⟩ ⟨hx, hb, hml, hown, hts, hE.agree (Nat.le_of_ble_eq_true hNE) hs1 hs2, hini, hRC, hRS, hRd, hRl⟩ H1 locs1 ls hR1 (hl.agree hs1 hLc)
        have e9 : (r.toList ++ rest).map (mj_cv σ') = (r.map (mj_cv σ')).toList ++ rest.map (mj_cv σ) := by
          rw [List.map_append, mj_clL_cv hs1 hrc2]
          cases r <;> rfl
        dsimp only at k'
        rw [e9] at k'
        exact k'
      · cases hrc
    · cases hi
theorem g_callSD {n : Nat} {M M' : mj_M} {κ : mj_K} {RC RS dd : Nat} (hX : mj_X M RC RS dd κ) (hA : mj_okA M = true) (hA' : mj_okA M' = true) {pc : Nat} {L st As rest : List Value} {h h' : mj_H} {cc cs mc ms d : Nat} {r : Option Value} (hC : mj_Cd n M' As h r h' mc ms d) (hi : mj_isS (mj_cd M pc) M' = true) (hsta : lw_tbl[mM_p2 M']? = some (Cond.static (mM_y M'))) (hst : st = As.reverse ++ rest) (hn : As.length = mM_np M') (hw : Nat.ble ((rest.map fun v => v.category).sum) 8 = true) (hroom : Nat.ble (cc + mc) RC = true ∧ Nat.ble (cs + ms) RS = true ∧ Nat.blt d dd = true) (hNE : Nat.ble mj_NE n = true) (hLc : L.all (mj_clV n) = true) (hrc2 : rest.all (mj_clV n) = true) (k : ∀ κ' : mj_K, mj_al n κ κ' → mj_X M RC RS dd κ' → mj_G κ' (pc + 3, L, r.toList ++ rest, h', cc + mc, cs + ms)) : mj_G κ (pc, L, st, h, cc, cs) := by
  subst hst
  obtain ⟨hcode', -, hinit', hown', hpl', hm1, hm2, hnp, hnl⟩ := mj_okA_Y hA'
  obtain ⟨p, l, e, R, s, m, args, below, meth, c, Q, σ, D, cT, base⟩ := κ
  obtain ⟨hx, hb, hml, hown, hts, hE, hini, hRC, hRS, hRd, hRl⟩ := hX
  cases hcd : mj_cd M pc with
  | none => rw [hcd] at hi; cases hi
  | some i =>
    rw [hcd] at hi
    have hkat := mj_okA_K hA hcd
    have hdg := mj_dec hA hcd
    obtain ⟨ins, len, a, b, w, v⟩ := i
    unfold mj_isS at hi
    split at hi
    · rename_i idx a' b' w' v' heq
      cases heq
      simp only [Bool.and_eq_true] at hi
      have ha : a = M'.1 := Nat.eq_of_beq_eq_true hi.1
      have ha2 : a < 1000 := Nat.blt_eq.mp hi.2
      have hlink : lw_tbl[w]? = some (Cond.methodLink (mM_own M) idx (mM_y M')) := by
        unfold mj_kat at hkat
        dsimp only at hkat
        split at hkat
        · omega
        · simp only [Bool.or_eq_true, decide_eq_true_eq] at hkat
          rcases hkat with hk | hk
          · rw [ha] at hk; exact hk
          · exact absurd (Nat.le_of_ble_eq_true hk) (by omega)
      intro H locs ls hR hl
      obtain ⟨hr1, hr2, hr3⟩ := hroom
      have hd : d < dd := Nat.blt_eq.mp hr3
      have hT : GoodIn mj_tbl (va_wsS (mM_own M) idx (mM_y M') (mj_wsM M')) := mj_good fun w hw => by
        unfold va_wsS at hw
        rcases List.mem_append.mp hw with hw | hw
        · simp only [List.mem_cons, List.not_mem_nil, or_false] at hw
          rcases hw with rfl | rfl | rfl
          · exact mj_in hlink rfl
          · exact mj_in hsta rfl
          · exact hinit'
        · exact mj_goodM hA' w hw
      have cw := va_cwS (R := R) (s := s) (args := args) (bytes := mM_cc M') (maxL := mM_nl M') (ret := mM_ret M') (rm := mj_rm d mc ms) (mM_np M') hts hT rfl rfl rfl ⟨hm1, hm2, hnp⟩ ⟨by show d + 1 ≤ R.frames; omega, by show 8 + (mM_nl M' + 11) + 64 * d ≤ R.locals; omega⟩
      refine mw_afterD (a := (As.map (mj_cv σ)).toArray) (rest := rest.map (mj_cv σ)) hR (va_runS (As := As.map (mj_cv σ)) (S := ⟨hx, hb, rfl, hown, hts⟩) (hC l σ D cT base) cw ⟨mj_Pc.blind, fun U hU hW => ⟨rfl, hE.call hR.2.2.2 hU hW, by rw [hU]; exact mj_R0.moved hW.alike ⟨hR.1, hR.2.1, hR.2.2.1⟩⟩⟩ rfl (by rw [List.length_map]; exact hn) hl.1 (by simp only [List.map_append, List.map_reverse]) (lv_room (by rw [mj_catS]; exact Nat.le_of_ble_eq_true hw)) hdg ⟨Nat.le_trans (Nat.le_of_ble_eq_true hr1) hRC, Nat.le_trans (Nat.le_of_ble_eq_true hr2) hRS⟩) fun H1 locs1 σ' hs1 hs2 hR1 => ?_
      have k' := k (p, l, e, R, s, m, args, below, meth, c, Q, σ', D, cT, base) ⟨σ', hs1, rfl⟩ ⟨hx, hb, hml, hown, hts, hE.agree (Nat.le_of_ble_eq_true hNE) hs1 hs2, hini, hRC, hRS, hRd, hRl⟩ H1 locs1 ls hR1 (hl.agree hs1 hLc)
      have e9 : (r.toList ++ rest).map (mj_cv σ') = (r.map (mj_cv σ')).toList ++ rest.map (mj_cv σ) := by
        rw [List.map_append, mj_clL_cv hs1 hrc2]
        cases r <;> rfl
      dsimp only at k'
      rw [e9] at k'
      exact k'
    · cases hi
theorem d_VD {M M' : mj_M} {RC RS dd n : Nat} (hA : mj_okA M = true) (hA' : mj_okA M' = true) (hsel : lw_tbl[mM_p3 M']? = some (Cond.selects (mM_y M').cls (mM_y M') (mM_y M')) ∧ lw_tbl[mM_p2 M']? = some (Cond.instanceMethod (mM_y M'))) {pc q : Nat} {L As st rest : List Value} {h h' : mj_H} {cc cs mc ms d : Nat} {r : Option Value} (hC : mj_Cd n M' (.ref q :: As) h r h' mc ms d) (hst : st = As.reverse ++ .ref q :: rest) (hi : mj_isV (mj_cd M pc) M' = true) (hn : As.length = mM_np M') (hrc : mj_rcv h q M' = true) (hw : Nat.ble ((rest.map fun v => v.category).sum) 8 = true) (hroom : Nat.ble (cc + mc) RC = true ∧ Nat.ble (cs + ms) RS = true ∧ Nat.blt d dd = true) (hNE : Nat.ble mj_NE n = true) (hLc : L.all (mj_clV n) = true) (hrc2 : rest.all (mj_clV n) = true) : mj_Rd M RC RS dd n (pc, L, st, h, cc, cs) (pc + 3, L, r.toList ++ rest, h', cc + mc, cs + ms) := fun _ hX k => g_callVD hX hA hA' hC hi hsel hst hn hrc hw hroom hNE hLc hrc2 k
