/-! FORGETTING: what lies behind the first cells is left out, and the names behind them mean what is new from then on -/
def mj_clV (n : Nat) : Value → Bool
  | .ref i => Nat.blt i n
  | _ => true
/-- a cell that speaks of the first n cells alone -/
def mj_clC (n : Nat) : mj_Cl → Bool
  | .inl (_, _, .inl _) => true
  | .inl (_, _, .inr (.inl _)) => true
  | .inl _ => false
  | .inr (_, fs) => fs.all (mj_clV n)
theorem mj_clV_cv {n : Nat} {σ σ' : Nat → Nat} (hs : ∀ i, i < n → σ' i = σ i) {v : Value} (h : mj_clV n v = true) : mj_cv σ' v = mj_cv σ v := by
  cases v with
  | ref i => exact congrArg Value.ref (hs i (Nat.blt_eq.mp h))
  | _ => rfl
theorem mj_clL_cv {n : Nat} {σ σ' : Nat → Nat} (hs : ∀ i, i < n → σ' i = σ i) {L : List Value} (h : L.all (mj_clV n) = true) : L.map (mj_cv σ') = L.map (mj_cv σ) := List.map_congr_left fun v hv => mj_clV_cv hs (List.all_eq_true.mp h v hv)
theorem mj_clC_cc {n : Nat} {σ σ' : Nat → Nat} {cT : FieldType → ClassId} (hs : ∀ i, i < n → σ' i = σ i) {c : mj_Cl} (h : mj_clC n c = true) : mj_cc σ' cT c = mj_cc σ cT c := by
  rcases c with ⟨ty, N, a⟩ | ⟨ci, fs⟩
  · rcases a with f | a
    · rfl
    · rcases a with f | a
      · rfl
      · cases h
  · show Sum.inr (ci, fs.map (mj_cv σ')) = Sum.inr (ci, fs.map (mj_cv σ))
    rw [mj_clL_cv hs h]
theorem mj_clC_at {n : Nat} {σ σ' : Nat → Nat} {D : va_G} {cT : FieldType → ClassId} {base : Nat} {s : State} {i : Nat} {c : mj_Cl} {H : Heap} (hs : ∀ i, i < n → σ' i = σ i) (hi : i < n) (h : mj_clC n c = true) (k : mj_at σ D cT base s i c H) : mj_at σ' D cT base s i c H := by
  unfold mj_at at k ⊢
  rw [mj_clC_cc hs h, hs i hi]
  split
  · rename_i hb
    rw [hb] at k
    exact k
  · rename_i hb
    rw [hb] at k
    unfold mj_ext at k ⊢
    rw [hs i hi]
    exact k
/-- the same walk with other names from n on -/
def mj_al (n : Nat) (κ κ' : mj_K) : Prop := match κ with
  | (p, l, e, R, s, m, args, below, meth, c, Q, σ, D, cT, base) => ∃ σ' : Nat → Nat, (∀ i, i < n → σ' i = σ i) ∧ κ' = (p, l, e, R, s, m, args, below, meth, c, Q, σ', D, cT, base)
theorem mj_al_rf {n : Nat} {κ : mj_K} : mj_al n κ κ := by
  obtain ⟨p, l, e, R, s, m, args, below, meth, c, Q, σ, D, cT, base⟩ := κ
  exact ⟨σ, fun _ _ => rfl, rfl⟩
theorem mj_al_tr {n : Nat} {κ κ1 κ2 : mj_K} (h1 : mj_al n κ κ1) (h2 : mj_al n κ1 κ2) : mj_al n κ κ2 := by
  obtain ⟨p, l, e, R, s, m, args, below, meth, c, Q, σ, D, cT, base⟩ := κ
  obtain ⟨σ1, a1, rfl⟩ := h1
  obtain ⟨σ2, a2, rfl⟩ := h2
  exact ⟨σ2, fun i hi => (a2 i hi).trans (a1 i hi), rfl⟩
theorem mj_al_le {n k : Nat} {κ κ' : mj_K} (hk : k ≤ n) (h1 : mj_al n κ κ') : mj_al k κ κ' := by
  obtain ⟨p, l, e, R, s, m, args, below, meth, c, Q, σ, D, cT, base⟩ := κ
  obtain ⟨σ1, a1, rfl⟩ := h1
  exact ⟨σ1, fun i hi => a1 i (Nat.lt_of_lt_of_le hi hk), rfl⟩
/-- reaching, where the names from n on may change -/
def mj_Rd (M : mj_M) (RC RS dd n : Nat) (g g' : mj_S) : Prop := ∀ κ : mj_K, mj_X M RC RS dd κ → (∀ κ' : mj_K, mj_al n κ κ' → mj_X M RC RS dd κ' → mj_G κ' g') → mj_G κ g
theorem d_of {M : mj_M} {RC RS dd n : Nat} {g g' : mj_S} (h : mj_Rc M RC RS dd g g') : mj_Rd M RC RS dd n g g' := fun κ hX k => h κ hX (k κ mj_al_rf hX)
theorem d_tr {M : mj_M} {RC RS dd n : Nat} {g1 g2 g3 : mj_S} (h1 : mj_Rd M RC RS dd n g1 g2) (h2 : mj_Rd M RC RS dd n g2 g3) : mj_Rd M RC RS dd n g1 g3 := fun κ hX k => h1 κ hX fun κ' a1 hX' => h2 κ' hX' fun κ2 a2 hX2 => k κ2 (mj_al_tr a1 a2) hX2
theorem d_rc {M : mj_M} {RC RS dd n : Nat} {g1 g2 g3 : mj_S} (h1 : mj_Rd M RC RS dd n g1 g2) (h2 : mj_Rc M RC RS dd g2 g3) : mj_Rd M RC RS dd n g1 g3 := d_tr h1 (d_of h2)
theorem mj_stNE {i : Nat} {q : String × String × String} (h : mj_st[i]? = some q) : i < mj_NE := Nat.lt_of_lt_of_le (List.getElem?_eq_some_iff.mp h).1 (by decide)
theorem mj_E.names {n m : Nat} {σ : Nat → Nat} {D : va_G} {cT : FieldType → ClassId} {base : Nat} {U : State} (hn : mj_NE ≤ n) (hE : mj_E σ D cT base U) : mj_E (fun i => if i < n then σ i else σ (i + m)) D cT base U := by
  obtain ⟨h1, h2, h3, h4, h5, h6⟩ := hE
  refine ⟨h1, h2, fun i q hq => ?_, h4, fun i hi => ?_, fun i j hi hj e => ?_⟩
  · dsimp only
    rw [if_pos (Nat.lt_of_lt_of_le (mj_stNE hq) hn)]
    exact h3 i q hq
  · have := Nat.le_of_ble_eq_true hi
    dsimp only
    split
    · exact h5 i hi
    · exact h5 _ (Nat.ble_eq_true_of_le (by omega))
  · have g1 := Nat.le_of_ble_eq_true hi
    have g2 := Nat.le_of_ble_eq_true hj
    dsimp only at e
    split at e
    · split at e
      · exact h6 i j hi hj e
      · have := h6 i (j + m) hi (Nat.ble_eq_true_of_le (by omega)) e
        omega
    · split at e
      · have := h6 (i + m) j (Nat.ble_eq_true_of_le (by omega)) hj e
        omega
      · have := h6 (i + m) (j + m) (Nat.ble_eq_true_of_le (by omega)) (Nat.ble_eq_true_of_le (by omega)) e
        omega
theorem d_drop {M : mj_M} {RC RS dd n : Nat} {pc : Nat} {L st : List Value} {P Z : mj_H} {cc cs : Nat} (hn : Nat.ble n P.length = true) (hNE : Nat.ble mj_NE P.length = true) (hP : P.all (mj_clC P.length) = true) (hL : L.all (mj_clV P.length) = true) (hst : st.all (mj_clV P.length) = true) : mj_Rd M RC RS dd n (pc, L, st, P ++ Z, cc, cs) (pc, L, st, P, cc, cs) := by
  intro κ hX k
  obtain ⟨p, l, e, R, s, m, args, below, meth, c, Q, σ, D, cT, base⟩ := κ
  have hNE' := Nat.le_of_ble_eq_true hNE
  have hn' := Nat.le_of_ble_eq_true hn
  have hs : ∀ i, i < P.length → (fun i => if i < P.length then σ i else σ (i + Z.length)) i = σ i := fun i hi => if_pos hi
  obtain ⟨hx, hb, hml, hown, hts, hE, hini, hRC, hRS, hRd, hRl⟩ := hX
  have k' := k (p, l, e, R, s, m, args, below, meth, c, Q, (fun i => if i < P.length then σ i else σ (i + Z.length)), D, cT, base) ⟨_, fun i hi => hs i (Nat.lt_of_lt_of_le hi hn'), rfl⟩ ⟨hx, hb, hml, hown, hts, hE.names hNE', hini, hRC, hRS, hRd, hRl⟩
  intro H locs ls hR hl
  have k2 := k' H locs ls ⟨fun i ce hi => ?_, fun j => ?_, hNE', hR.2.2.2⟩ ⟨hl.1, hl.2.1, fun i v hi hv => ?_⟩
  · have e9 := mj_clL_cv hs hst
    dsimp only at k2
    rw [e9] at k2
    exact k2
  · have hlt : i < P.length := (List.getElem?_eq_some_iff.mp hi).1
    exact mj_clC_at hs hlt (List.all_eq_true.mp hP ce (List.mem_of_getElem? hi)) (hR.1 i ce (by rw [List.getElem?_append_left hlt]; exact hi))
  · dsimp only
    rw [if_neg (by omega)]
    have := hR.2.1 j
    dsimp only at this
    rw [List.length_append] at this
    rw [← this]
    congr 1
    omega
  · rw [mj_clV_cv hs (List.all_eq_true.mp hL v (List.mem_of_getElem? hi))]
    exact hl.2.2 i v hi hv
/-! contracts of methods that leave things that nobody asks for -/
def mj_Qj (σ : Nat → Nat) (D : va_G) (cT : FieldType → ClassId) (base : Nat) (r : Option Value) (h' : mj_H) : Array Value → State → Outcome → State → Prop := fun a st o t => ∃ k, mj_Qc σ D cT base r (h' ++ mj_jk k) a st o t
def mj_Cj (M : mj_M) (as : List Value) (h : mj_H) (r : Option Value) (h' : mj_H) (mc ms d : Nat) : Prop :=
  ∀ (l : Launch) (σ : Nat → Nat) (D : va_G) (cT : FieldType → ClassId) (base : Nat), Met l (mM_y M) (mj_wsM M) (mj_rm d mc ms) (mj_Pc σ D cT base as h) (mj_Qj σ D cT base r h') mc ms (fun q => base ≤ q)
def mj_FinJ (M : mj_M) (κ : mj_K) (r : Option Value) (h' : mj_H) (mc ms : Nat) : Prop := ∀ κ' : mj_K, mj_al h'.length κ κ' → ∀ (pc : Nat) (L : List Value) (cc cs : Nat) (i : mj_I), mj_cd M pc = some i → mj_isR (mM_ret M) r i → cc ≤ mc → cs ≤ ms → mj_G κ' (pc, L, r.toList, h', cc, cs)
theorem mj_introJ {M : mj_M} {as : List Value} {h : mj_H} {r : Option Value} {h' : mj_H} {mc ms d : Nat} (h0 : Nat.ble h.length h'.length = true) (hcl : h'.all (mj_clC h'.length) = true) (hrr : r.toList.all (mj_clV h'.length) = true) (hA : mj_okA M = true) (hl : Nat.ble (lg_sl as).length (mM_nl M) = true) (body : ∀ κ : mj_K, mj_X M mc ms d κ → mj_FinJ M κ r h' mc ms → mj_G κ (0, mj_ent as (mM_nl M), [], h, 0, 0)) : mj_Cj M as h r h' mc ms d := by
  obtain ⟨hcode, -, hinit, hown', hpl, -, -, -, -⟩ := mj_okA_Y hA
  intro l σ D cT base
  refine mw_ofW (cc := mM_cc M) (maxL := mM_nl M) (ret := mM_ret M) hpl rfl ?_
  intro p e s m args below meth c s₁ B hml hv
  obtain ⟨rfl, hE, hR⟩ := hv
  have hts0 := atoms_spec (ws := mj_wsM M) B.pre
  have hts : ∀ w ∈ mj_tbl, w.before _ s = true := fun w hw => hts0 w (List.mem_cons_of_mem _ hw)
  have hown : s.vm.findClass (mM_own M) = some m.cls := hown' ▸ findClass_of_methodNamed B.named
  have hlocks := B.notSynchronized
  have hin : mj_ini M = true → meth.name = "<init>" := fun h => ((name_of_methodNamed B.named B.method).1).trans (of_decide_eq_true h)
  have hlen : (lg_sl (as.map (mj_cv σ))).length ≤ mM_nl M := by rw [lg_sl_cv]; exact Nat.le_of_ble_eq_true hl
  have hle := lv_entry (as.map (mj_cv σ)) (n := mM_nl M) hlen
  rw [lg_entry_eq]
  generalize (lg_sl (as.map (mj_cv σ)) ++ List.replicate (mM_nl M - (lg_sl (as.map (mj_cv σ))).length) Slot.unset).toArray = ls at hle ⊢
  have hX : mj_X M mc ms d (p, l, e, (headSpec (mj_wsM M) (mj_rm d mc ms)).room, s, m, (as.map (mj_cv σ)).toArray, below, meth, c, MQ below (mj_Qj σ D cT base r h') (as.map (mj_cv σ)).toArray s mc ms (fun q => base ≤ q), σ, D, cT, base) := ⟨B.exec, B.bytes, hml, hown, hts, hE, hin, Nat.le_refl _, Nat.le_refl _, Nat.le_refl _, Nat.le_refl _⟩
  have hF : mj_FinJ M (p, l, e, (headSpec (mj_wsM M) (mj_rm d mc ms)).room, s, m, (as.map (mj_cv σ)).toArray, below, meth, c, MQ below (mj_Qj σ D cT base r h') (as.map (mj_cv σ)).toArray s mc ms (fun q => base ≤ q), σ, D, cT, base) r h' mc ms := by
    intro κ' hal pc L cc cs i hi hr hc1 hc2
    obtain ⟨σ', hσ', rfl⟩ := hal
    intro H locs ls' hR' hl'
    replace hR' : mj_R σ' D cT base s h' H locs := hR'
    have hrq : r.toList.map (mj_cv σ') = r.toList.map (mj_cv σ) := mj_clL_cv hσ' hrr
    show W p l e _ s m _ below meth c H locs cc cs _ (F0 m pc ls' (r.toList.map (mj_cv σ')))
    rw [hrq]
    have hsy : ∀ i, i < h'.length → σ i = σ' i := fun i hi => (hσ' i hi).symm
    have hle0 := Nat.le_of_ble_eq_true h0
    have hbig : s.heap.size + (h'.length - h.length) ≤ H.size := by
      by_cases q : h'.length = h.length
      · have := hR'.2.2.2.1
        omega
      · have hq1 : h'.length - 1 < h'.length := by omega
        have hat := hR'.1 _ _ (List.getElem?_eq_getElem hq1)
        have hb2 : Nat.ble mj_NE (h'.length - 1) = true := Nat.ble_eq_true_of_le (by have := hR.2.2; omega)
        unfold mj_at at hat
        rw [hb2] at hat
        have h9 := hat.2
        rw [hσ' _ hq1] at h9
        have h8 := hR.2.1 (h'.length - 1 - h.length)
        rw [show h.length + (h'.length - 1 - h.length) = h'.length - 1 by omega] at h8
        rw [h8] at h9
        omega
    have hR9 : mj_R0 σ D cT base s (h' ++ mj_jk (H.size - s.heap.size - (h'.length - h.length))) H := by
      refine ⟨fun i ce hi => ?_, fun j => ?_, ?_⟩
      · by_cases hlt : i < h'.length
        · rw [List.getElem?_append_left hlt] at hi
          exact mj_clC_at hsy hlt (List.all_eq_true.mp hcl ce (List.mem_of_getElem? hi)) (hR'.1 i ce hi)
        · rw [List.getElem?_append_right (by omega)] at hi
          have hc' := List.eq_of_mem_replicate (List.mem_of_getElem? hi)
          have hlen : i - h'.length < H.size - s.heap.size - (h'.length - h.length) := by
            have := (List.getElem?_eq_some_iff.mp hi).1
            unfold mj_jk at this
            rw [List.length_replicate] at this
            exact this
          have hb2 : Nat.ble mj_NE i = true := Nat.ble_eq_true_of_le (by have := hR.2.2; omega)
          unfold mj_at
          rw [hb2]
          subst hc'
          refine ⟨fun hj => Bool.noConfusion hj, ?_⟩
          have h8 := hR.2.1 (i - h.length)
          rw [show h.length + (i - h.length) = i by omega] at h8
          rw [h8]
          omega
      · unfold mj_jk
        rw [List.length_append, List.length_replicate]
        have h8 := hR.2.1 (h'.length - h.length + (H.size - s.heap.size - (h'.length - h.length)) + j)
        rw [show h.length + (h'.length - h.length + (H.size - s.heap.size - (h'.length - h.length)) + j) = h'.length + (H.size - s.heap.size - (h'.length - h.length)) + j by omega] at h8
        rw [h8]
        omega
      · rw [List.length_append]
        have := hR.2.2
        omega
    have hdg := mj_dec hA hi
    obtain ⟨ins, len, a, b, w, v⟩ := i
    refine W.widen hc1 hc2 ?_
    have hq : ∀ t : State, t.heap = H → s.WarmedH t.vm → mj_Qj σ D cT base r h' (as.map (mj_cv σ)).toArray s (.returned (r.map (mj_cv σ))) t := fun t ht hW => ⟨_, rfl, by rw [ht]; exact mj_R0.moved (s := s) hW.alike hR9, hR'.2.2.2.F ht⟩
    have hf : ∀ q ∈ locs, base ≤ q.base := hR'.2.2.2.2.2
    unfold mj_isR at hr
    clear hrr hrq
    have hret := B.returns
    dsimp only at hr hdg hq ⊢
    split at hr
    · rename_i e3
      rw [e3] at hret
      rw [hr] at hdg
      exact W.iret B.exec B.bytes hret hq hf hdg
    · rename_i e3
      rw [e3] at hret
      rw [hr.1] at hdg
      exact W.zret B.exec B.bytes hret hr.2 hq hf hdg
    · rename_i e3
      rw [e3] at hret
      rw [hr] at hdg
      exact W.lret B.exec B.bytes hret hq hf hdg
    · rename_i e3
      rw [e3] at hret
      rw [hr] at hdg
      exact W.dret B.exec B.bytes hret hq hf hdg
    · rename_i e3
      rw [e3] at hret
      rw [hr] at hdg
      exact W.aret B.exec B.bytes hret (Or.inl ⟨_, rfl⟩) (Or.inr ⟨_, rfl⟩) hq hf hdg
    · rename_i e3
      rw [e3] at hret
      rw [hr] at hdg
      exact W.aret B.exec B.bytes hret (Or.inr ⟨_, rfl⟩) (Or.inr ⟨_, rfl⟩) hq hf hdg
    · rename_i e3
      rw [e3] at hret
      rw [hr] at hdg
      exact W.vret B.exec B.bytes hret hq hf hdg
    · exact absurd hr id
  refine body _ hX hF s.heap [] ls ⟨hR.1, hR.2.1, hR.2.2, va_S.rf⟩ ⟨by rw [hml]; exact hle.1, hle.2.1, fun i v hi hv => ?_⟩
  have h2 : (mj_entA as)[i]? = some v := by
    unfold mj_ent at hi
    by_cases hlt : i < (mj_entA as).length
    · rw [List.getElem?_append_left hlt] at hi
      exact hi
    · rw [List.getElem?_append_right (by omega)] at hi
      exact absurd (List.eq_of_mem_replicate (List.mem_of_getElem? hi)) hv
  have h3 := mj_entA_in (σ := σ) as 0 i v h2 hv
  rw [Nat.zero_add] at h3
  exact hle.2.2 (i, mj_cv σ v) h3
theorem ct_j {M : mj_M} (hA : mj_okA M = true) {as : List Value} {h : mj_H} {r : Option Value} {h' : mj_H} {mc ms d n : Nat} {pc : Nat} {L st : List Value} {cc cs : Nat} {i : mj_I} (hl : Nat.ble (lg_sl as).length (mM_nl M) = true) (hR : mj_Rd M mc ms d n (0, mj_ent as (mM_nl M), [], h, 0, 0) (pc, L, st, h', cc, cs)) (hn : Nat.beq n h'.length = true) (h0 : Nat.ble h.length h'.length = true) (hcl : h'.all (mj_clC h'.length) = true) (hrr : r.toList.all (mj_clV h'.length) = true) (hst : st = r.toList) (hi : mj_cd M pc = some i) (hr : mj_isR (mM_ret M) r i) (hc : Nat.ble cc mc = true) (hs : Nat.ble cs ms = true) : mj_Cj M as h r h' mc ms d := mj_introJ h0 hcl hrr hA hl fun κ hX hF => hR κ hX fun κ' hal _ => by
  subst hst
  exact hF κ' (by rw [← Nat.eq_of_beq_eq_true hn]; exact hal) pc L cc cs i hi hr (Nat.le_of_ble_eq_true hc) (Nat.le_of_ble_eq_true hs)
section CLJ
variable {p : Program} {l : Launch} {e : Env} {R : Room} {s : State} {m : MethodId} {args : Array Value} {below : List Frame} {meth : Method} {c : Code} {H : Heap} {locs : List Loc} {cells slots : Nat} {Q : State → Prop}
theorem mw_afterJ {σ : Nat → Nat} {D : va_G} {cT : FieldType → ClassId} {base : Nat} {h : mj_H} {r : Option Value} {h' : mj_H} {mc ms : Nat} {a : Array Value} {pc : Nat} {ls : Array Slot} {st0 rest : List Value} (hR : mj_R σ D cT base s h H locs)
    (hr : va_Run p l e R s m args below meth c H locs cells slots mc ms (F0 m pc ls st0) rest (mj_Qj σ D cT base r h' a) (fun q => base ≤ q))
    (k : ∀ (H1 : Heap) (locs1 : List Loc) (j : Nat), mj_R σ D cT base s (h' ++ mj_jk j) H1 locs1 → W p l e R s m args below meth c H1 locs1 (cells + mc) (slots + ms) Q (F0 m (pc + 3) ls ((r.map (mj_cv σ)).toList ++ rest))) : W p l e R s m args below meth c H locs cells slots Q (F0 m pc ls st0) := by
  intro T hT X
  obtain ⟨v, st₀, t, T', L, h0, X', hL, e1, e2, ⟨j, hv, hb, hz, hk⟩, st⟩ := hr T hT X
  cases hv
  rw [h0] at hz hk
  have hal : t.vm.Alike s.vm := by rw [← e2]; exact X'.warmed.alike.symm
  obtain ⟨t2, a1, b1⟩ := k T'.heap (locs ++ L) j ⟨fun i c hi => by rw [e1]; exact (hb.1 i c hi).moved hal, by rw [e1]; exact hb.2.1, hb.2.2, ⟨Nat.le_trans hR.2.2.2.1 (by rw [e1]; exact hz), fun q h1 h2 => by
      rw [e1, hk q (Nat.lt_of_lt_of_le h1 hR.2.2.2.1) h2]
      exact hR.2.2.2.2.1 q h1 h2, fun q hq => by
      rcases List.mem_append.mp hq with h | h
      · exact hR.2.2.2.2.2 q h
      · exact hL q h⟩⟩ T' rfl X'
  exact ⟨t2, st t2 a1, b1⟩
end CLJ
theorem g_callVJ {M M' : mj_M} {κ : mj_K} {RC RS dd : Nat} (hX : mj_X M RC RS dd κ) (hA : mj_okA M = true) (hA' : mj_okA M' = true) {pc q : Nat} {L st As rest : List Value} {h h' : mj_H} {cc cs mc ms d : Nat} {r : Option Value} (hC : mj_Cj M' (.ref q :: As) h r h' mc ms d) (hi : mj_isV (mj_cd M pc) M' = true) (hsel : lw_tbl[mM_p3 M']? = some (Cond.selects (mM_y M').cls (mM_y M') (mM_y M')) ∧ lw_tbl[mM_p2 M']? = some (Cond.instanceMethod (mM_y M'))) (hst : st = As.reverse ++ .ref q :: rest) (hn : As.length = mM_np M') (hrc : mj_rcv h q M' = true) (hw : Nat.ble ((rest.map fun v => v.category).sum) 8 = true) (hroom : Nat.ble (cc + mc) RC = true ∧ Nat.ble (cs + ms) RS = true ∧ Nat.blt d dd = true) (k : ∀ j : Nat, mj_G κ (pc + 3, L, r.toList ++ rest, h' ++ mj_jk j, cc + mc, cs + ms)) : mj_G κ (pc, L, st, h, cc, cs) := by
  subst hst
  obtain ⟨hcode', -, hinit', hown', hpl', hm1, hm2, hnp, hnl⟩ := mj_okA_Y hA'
  obtain ⟨p, l, e, R, s, m, args, below, meth, c, Q, σ, D, cT, base⟩ := κ
  obtain ⟨hx, hb, hml, hown, hts, hE, hini, hRC, hRS, hRd, hRl⟩ := hX
  cases hcd : mj_cd M pc with
  | none => rw [hcd] at hi; cases hi
  | some i =>
    rw [hcd] at hi
    have hkat := mj_okA_K hA hcd
    have hdg := mj_dec hA hcd
    obtain ⟨ins, len, a, b, w, v⟩ := i
    unfold mj_isV at hi
    split at hi
    · rename_i idx a' b' w' v' heq
      cases heq
      simp only [Bool.and_eq_true] at hi
      have ha : a = M'.1 := Nat.eq_of_beq_eq_true hi.1
      have ha2 : a < 1000 := Nat.blt_eq.mp hi.2
      have hlink : lw_tbl[w]? = some (Cond.methodLink (mM_own M) idx (mM_y M')) := by
        simp only [mj_kat, Bool.or_eq_true, decide_eq_true_eq] at hkat
        rcases hkat with hk | hk
        · rw [ha] at hk; exact hk
        · exact absurd (Nat.le_of_ble_eq_true hk) (by omega)
      intro H locs ls hR hl
      obtain ⟨hr1, hr2, hr3⟩ := hroom
      have hd : d < dd := Nat.blt_eq.mp hr3
      have hT : GoodIn mj_tbl (wsV (mM_own M) idx (mM_y M').cls (mM_y M') (mj_wsM M')) := mj_good fun w hw => by
        unfold wsV at hw
        rcases List.mem_append.mp hw with hw | hw
        · simp only [List.mem_cons, List.not_mem_nil, or_false] at hw
          rcases hw with rfl | rfl | rfl | rfl
          · exact mj_in hlink rfl
          · exact mj_in hsel.2 rfl
          · exact mj_in hsel.1 rfl
          · exact hinit'
        · exact mj_goodM hA' w hw
      have cw : CallW R s args (mM_own M) (mM_y M').cls idx (mM_y M') (mM_cc M') (mM_nl M') (mM_ret M') (mj_wsM M') (mj_rm d mc ms) mc ms (mM_np M') := cwV (mM_np M') hts hT rfl rfl rfl ⟨rfl, hm1, hm2, hnp⟩ ⟨by show d + 1 ≤ R.frames; omega, by show 8 + (mM_nl M' + 11) + 64 * d ≤ R.locals; omega⟩
      unfold mj_rcv at hrc
      split at hrc
      · rename_i ci fs C T N hq hble hcl
        simp only [Bool.and_eq_true, decide_eq_true_eq] at hrc
        have hci : ci = M'.2.2.2.2.1 := Nat.eq_of_beq_eq_true hrc.1
        subst hci
        have hat := mj_at.own hble (mj_notJunk hcl) (hR.1 q _ hq)
        have hrv := va_recv hE.1 (mj_sg hat) hcl (q0 := 0) rfl
        have hcls : C = (mM_y M').cls := hrc.2.trans hown'.symm
        refine mw_afterJ (a := (Value.ref (σ q) :: As.map (mj_cv σ)).toArray) (rest := rest.map (mj_cv σ)) hR (va_runV (As := As.map (mj_cv σ)) (b := σ q) (S := ⟨hx, hb, rfl, hown, hts⟩) (hC l σ D cT base) cw ⟨mj_Pc.blind, by rw [← hcls]; exact hrv, fun U hU hW => ⟨rfl, hE.call hR.2.2.2 hU hW, by rw [hU]; exact mj_R0.moved hW.alike ⟨hR.1, hR.2.1, hR.2.2.1⟩⟩⟩ rfl (by rw [List.length_map]; exact hn) hl.1 (by simp only [List.map_append, List.map_reverse, List.map_cons]; rfl) (lv_room (by rw [mj_catS]; exact Nat.le_of_ble_eq_true hw)) hdg ⟨Nat.le_trans (Nat.le_of_ble_eq_true hr1) hRC, Nat.le_trans (Nat.le_of_ble_eq_true hr2) hRS⟩) fun H1 locs1 j hR1 => ?_
        have k' := k j H1 locs1 ls hR1 hl
        have e9 : (r.toList ++ rest).map (mj_cv σ) = (r.map (mj_cv σ)).toList ++ rest.map (mj_cv σ) := by cases r <;> rfl
        simp only [e9] at k'
        exact k'
      · cases hrc
    · cases hi
theorem g_callSJ {M M' : mj_M} {κ : mj_K} {RC RS dd : Nat} (hX : mj_X M RC RS dd κ) (hA : mj_okA M = true) (hA' : mj_okA M' = true) {pc : Nat} {L st As rest : List Value} {h h' : mj_H} {cc cs mc ms d : Nat} {r : Option Value} (hC : mj_Cj M' As h r h' mc ms d) (hi : mj_isS (mj_cd M pc) M' = true) (hsta : lw_tbl[mM_p2 M']? = some (Cond.static (mM_y M'))) (hst : st = As.reverse ++ rest) (hn : As.length = mM_np M') (hw : Nat.ble ((rest.map fun v => v.category).sum) 8 = true) (hroom : Nat.ble (cc + mc) RC = true ∧ Nat.ble (cs + ms) RS = true ∧ Nat.blt d dd = true) (k : ∀ j : Nat, mj_G κ (pc + 3, L, r.toList ++ rest, h' ++ mj_jk j, cc + mc, cs + ms)) : mj_G κ (pc, L, st, h, cc, cs) := by
  subst hst
  obtain ⟨hcode', -, hinit', hown', hpl', hm1, hm2, hnp, hnl⟩ := mj_okA_Y hA'
  obtain ⟨p, l, e, R, s, m, args, below, meth, c, Q, σ, D, cT, base⟩ := κ
  obtain ⟨hx, hb, hml, hown, hts, hE, hini, hRC, hRS, hRd, hRl⟩ := hX
  cases hcd : mj_cd M pc with
  | none => rw [hcd] at hi; cases hi
  | some i =>
    rw [hcd] at hi
    have hkat := mj_okA_K hA hcd
    have hdg := mj_dec hA hcd
    obtain ⟨ins, len, a, b, w, v⟩ := i
    unfold mj_isS at hi
    split at hi
    · rename_i idx a' b' w' v' heq
      cases heq
      simp only [Bool.and_eq_true] at hi
      have ha : a = M'.1 := Nat.eq_of_beq_eq_true hi.1
      have ha2 : a < 1000 := Nat.blt_eq.mp hi.2
      have hlink : lw_tbl[w]? = some (Cond.methodLink (mM_own M) idx (mM_y M')) := by
        unfold mj_kat at hkat
        dsimp only at hkat
        split at hkat
        · omega
        · simp only [Bool.or_eq_true, decide_eq_true_eq] at hkat
          rcases hkat with hk | hk
          · rw [ha] at hk; exact hk
          · exact absurd (Nat.le_of_ble_eq_true hk) (by omega)
      intro H locs ls hR hl
      obtain ⟨hr1, hr2, hr3⟩ := hroom
      have hd : d < dd := Nat.blt_eq.mp hr3
      have hT : GoodIn mj_tbl (va_wsS (mM_own M) idx (mM_y M') (mj_wsM M')) := mj_good fun w hw => by
        unfold va_wsS at hw
        rcases List.mem_append.mp hw with hw | hw
        · simp only [List.mem_cons, List.not_mem_nil, or_false] at hw
          rcases hw with rfl | rfl | rfl
          · exact mj_in hlink rfl
          · exact mj_in hsta rfl
          · exact hinit'
        · exact mj_goodM hA' w hw
      have cw := va_cwS (R := R) (s := s) (args := args) (bytes := mM_cc M') (maxL := mM_nl M') (ret := mM_ret M') (rm := mj_rm d mc ms) (mM_np M') hts hT rfl rfl rfl ⟨hm1, hm2, hnp⟩ ⟨by show d + 1 ≤ R.frames; omega, by show 8 + (mM_nl M' + 11) + 64 * d ≤ R.locals; omega⟩
      refine mw_afterJ (a := (As.map (mj_cv σ)).toArray) (rest := rest.map (mj_cv σ)) hR (va_runS (As := As.map (mj_cv σ)) (S := ⟨hx, hb, rfl, hown, hts⟩) (hC l σ D cT base) cw ⟨mj_Pc.blind, fun U hU hW => ⟨rfl, hE.call hR.2.2.2 hU hW, by rw [hU]; exact mj_R0.moved hW.alike ⟨hR.1, hR.2.1, hR.2.2.1⟩⟩⟩ rfl (by rw [List.length_map]; exact hn) hl.1 (by simp only [List.map_append, List.map_reverse]) (lv_room (by rw [mj_catS]; exact Nat.le_of_ble_eq_true hw)) hdg ⟨Nat.le_trans (Nat.le_of_ble_eq_true hr1) hRC, Nat.le_trans (Nat.le_of_ble_eq_true hr2) hRS⟩) fun H1 locs1 j hR1 => ?_
      have k' := k j H1 locs1 ls hR1 hl
      have e9 : (r.toList ++ rest).map (mj_cv σ) = (r.map (mj_cv σ)).toList ++ rest.map (mj_cv σ) := by cases r <;> rfl
      simp only [e9] at k'
      exact k'
    · cases hi
theorem d_V {M M' : mj_M} {RC RS dd n : Nat} (hA : mj_okA M = true) (hA' : mj_okA M' = true) (hsel : lw_tbl[mM_p3 M']? = some (Cond.selects (mM_y M').cls (mM_y M') (mM_y M')) ∧ lw_tbl[mM_p2 M']? = some (Cond.instanceMethod (mM_y M'))) {pc q : Nat} {L As st rest : List Value} {h h' : mj_H} {cc cs mc ms d : Nat} {r : Option Value} (hC : mj_Cj M' (.ref q :: As) h r h' mc ms d) (hst : st = As.reverse ++ .ref q :: rest) (hi : mj_isV (mj_cd M pc) M' = true) (hn : As.length = mM_np M') (hrc : mj_rcv h q M' = true) (hw : Nat.ble ((rest.map fun v => v.category).sum) 8 = true) (hroom : Nat.ble (cc + mc) RC = true ∧ Nat.ble (cs + ms) RS = true ∧ Nat.blt d dd = true) (hnn : Nat.ble n h'.length = true) (hNE : Nat.ble mj_NE h'.length = true) (hP : h'.all (mj_clC h'.length) = true) (hLc : L.all (mj_clV h'.length) = true) (hsc : (r.toList ++ rest).all (mj_clV h'.length) = true) : mj_Rd M RC RS dd n (pc, L, st, h, cc, cs) (pc + 3, L, r.toList ++ rest, h', cc + mc, cs + ms) := fun _ hX k => g_callVJ hX hA hA' hC hi hsel hst hn hrc hw hroom fun _ => d_drop hnn hNE hP hLc hsc _ hX k
theorem d_S {M M' : mj_M} {RC RS dd n : Nat} (hA : mj_okA M = true) (hA' : mj_okA M' = true) (hsta : lw_tbl[mM_p2 M']? = some (Cond.static (mM_y M'))) {pc : Nat} {L As st rest : List Value} {h h' : mj_H} {cc cs mc ms d : Nat} {r : Option Value} (hC : mj_Cj M' As h r h' mc ms d) (hst : st = As.reverse ++ rest) (hi : mj_isS (mj_cd M pc) M' = true) (hn : As.length = mM_np M') (hw : Nat.ble ((rest.map fun v => v.category).sum) 8 = true) (hroom : Nat.ble (cc + mc) RC = true ∧ Nat.ble (cs + ms) RS = true ∧ Nat.blt d dd = true) (hnn : Nat.ble n h'.length = true) (hNE : Nat.ble mj_NE h'.length = true) (hP : h'.all (mj_clC h'.length) = true) (hLc : L.all (mj_clV h'.length) = true) (hsc : (r.toList ++ rest).all (mj_clV h'.length) = true) : mj_Rd M RC RS dd n (pc, L, st, h, cc, cs) (pc + 3, L, r.toList ++ rest, h', cc + mc, cs + ms) := fun _ hX k => g_callSJ hX hA hA' hC hi hsta hst hn hw hroom fun _ => d_drop hnn hNE hP hLc hsc _ hX k
/-! RENAMING: a contract told with the cells in another order -/
def mj_rnV (π : Nat → Nat) : Value → Value
  | .ref i => .ref (π i)
  | v => v
def mj_rnC (π : Nat → Nat) : mj_Cl → mj_Cl
  | .inr (ci, fs) => .inr (ci, fs.map (mj_rnV π))
  | c => c
def mj_rnK : mj_Cl → Bool
  | .inl (_, _, .inl _) => true
  | .inl (_, _, .inr (.inl _)) => true
  | .inl _ => false
  | .inr _ => true
theorem mj_rn_cv {π σ : Nat → Nat} (v : Value) : mj_cv σ (mj_rnV π v) = mj_cv (fun i => σ (π i)) v := by cases v <;> rfl
theorem mj_rn_L {π σ : Nat → Nat} (L : List Value) : (L.map (mj_rnV π)).map (mj_cv σ) = L.map (mj_cv (fun i => σ (π i))) := by
  rw [List.map_map]
  exact List.map_congr_left fun v _ => mj_rn_cv v
theorem mj_rn_cc {π σ : Nat → Nat} {cT : FieldType → ClassId} {c : mj_Cl} (h : mj_rnK c = true) : mj_cc σ cT (mj_rnC π c) = mj_cc (fun i => σ (π i)) cT c := by
  rcases c with ⟨ty, N, a⟩ | ⟨ci, fs⟩
  · rcases a with f | a
    · rfl
    · rcases a with f | a
      · rfl
      · cases h
  · show Sum.inr (ci, (fs.map (mj_rnV π)).map (mj_cv σ)) = Sum.inr (ci, fs.map (mj_cv (fun i => σ (π i))))
    rw [mj_rn_L]
theorem mj_rn_at {π σ : Nat → Nat} {D : va_G} {cT : FieldType → ClassId} {base : Nat} {s : State} {i : Nat} {c : mj_Cl} {H : Heap} (hb : Nat.ble mj_NE (π i) = Nat.ble mj_NE i) (hk : mj_rnK c = true) : mj_at σ D cT base s (π i) (mj_rnC π c) H ↔ mj_at (fun i => σ (π i)) D cT base s i c H := by
  unfold mj_at
  rw [hb, mj_rn_cc hk]
  have hj : mj_junk (mj_rnC π c) = mj_junk c := by
    rcases c with c | ⟨ci, fs⟩
    · rfl
    · unfold mj_rnC mj_junk
      dsimp only
      split
      · rename_i e
        cases e
        rfl
      · rename_i e
        split
        · rename_i e2
          cases e2
          exact absurd rfl (e _)
        · rfl
  rw [hj]
  split
  · exact Iff.rfl
  · have : mj_ext σ base s (π i) (mj_rnC π c) H ↔ mj_ext (fun i => σ (π i)) base s i c H := by
      rcases c with ⟨ty, N, a⟩ | ⟨ci, fs⟩
      · rcases a with f | a
        · exact Iff.rfl
        · rcases a with f | a
          · exact Iff.rfl
          · cases hk
      · unfold mj_ext mj_rnC
        dsimp only
        split
        · rename_i e
          cases e
        · rename_i e
          cases e
          exact Iff.rfl
        · rename_i e1 e2
          split
          · rename_i e
            cases e
          · rename_i e
            cases e
            exact absurd rfl (e2 _)
          · exact Iff.rfl
    exact this
/-- π moves none but cells of the class's, of those there are -/
def mj_rnOK (π ρ : Nat → Nat) (n : Nat) : Prop := (∀ i, π (ρ i) = i) ∧ (∀ i, ρ (π i) = i) ∧ (∀ i, i < mj_NE → π i = i) ∧ (∀ i, n ≤ i → π i = i)
theorem mj_rnR {π ρ σ : Nat → Nat} {D : va_G} {cT : FieldType → ClassId} {base : Nat} {s : State} {h g : mj_H} {H : Heap} (ho : mj_rnOK π ρ h.length) (hl : Nat.beq g.length h.length = true) (hk : h.all mj_rnK = true) (he : (List.range h.length).map (fun i => g[π i]?) = h.map (fun c => some (mj_rnC π c))) : mj_R0 σ D cT base s g H ↔ mj_R0 (fun i => σ (π i)) D cT base s h H := by
  obtain ⟨o1, o2, o3, o4⟩ := ho
  have hlen : g.length = h.length := Nat.eq_of_beq_eq_true hl
  have hge : ∀ i (hi : i < h.length), g[π i]? = some (mj_rnC π h[i]) := fun i hi => by
    have h1 := congrArg (fun l => l[i]?) he
    simp only [List.getElem?_map, List.getElem?_range hi, List.getElem?_eq_getElem hi, Option.map_some] at h1
    exact Option.some.inj h1
  have hlt : ∀ i, i < h.length → π i < h.length := fun i hi => by
    rw [← hlen]
    exact (List.getElem?_eq_some_iff.mp (hge i hi)).1
  have hrl : ∀ i, i < h.length → ρ i < h.length := fun i hi => by
    rcases Nat.lt_or_ge (ρ i) h.length with q | q
    · exact q
    · have := o4 _ q
      rw [o1] at this
      omega
  have hb : ∀ i, Nat.ble mj_NE (π i) = Nat.ble mj_NE i := fun i => by
    by_cases q : i < mj_NE
    · rw [o3 i q]
    · have h2 : ¬ π i < mj_NE := fun z => by
        have e1 := o3 (π i) z
        have e2 := congrArg ρ e1
        rw [o2, o2] at e2
        rw [e2] at z
        exact q z
      rw [Nat.ble_eq_true_of_le (by omega), Nat.ble_eq_true_of_le (by omega)]
  refine ⟨fun ⟨h1, h2, h3⟩ => ⟨fun i c hi => ?_, fun j => ?_, by omega⟩, fun ⟨h1, h2, h3⟩ => ⟨fun i c hi => ?_, fun j => ?_, by omega⟩⟩
  · obtain ⟨hi2, e⟩ := List.getElem?_eq_some_iff.mp hi
    have h9 := h1 _ _ (hge i hi2)
    rw [e] at h9
    exact (mj_rn_at (hb i) (List.all_eq_true.mp hk c (List.mem_of_getElem? hi))).mp h9
  · dsimp only
    rw [o4 _ (by omega), ← hlen]
    exact h2 j
  · have hi2 : i < h.length := by rw [← hlen]; exact (List.getElem?_eq_some_iff.mp hi).1
    have hr2 := hrl i hi2
    have e := hge _ hr2
    rw [o1, hi] at e
    have e2 := Option.some.inj e
    have h9 := (mj_rn_at (σ := σ) (D := D) (cT := cT) (base := base) (s := s) (H := H) (hb (ρ i)) (List.all_eq_true.mp hk _ (List.getElem_mem hr2))).mpr (h1 _ _ (List.getElem?_eq_getElem hr2))
    rw [o1, ← e2] at h9
    exact h9
  · have := h2 j
    dsimp only at this
    rw [o4 _ (by omega)] at this
    rw [hlen]
    exact this
theorem ct_rn {M : mj_M} {as as0 : List Value} {g h g' h' : mj_H} {r r0 : Option Value} {mc ms d : Nat} (π ρ : Nat → Nat) (hC : mj_Ct M as0 h r0 h' mc ms d) (ho : mj_rnOK π ρ h.length) (ho' : mj_rnOK π ρ h'.length) (ha : as = as0.map (mj_rnV π)) (hr : r = r0.map (mj_rnV π)) (hl : Nat.beq g.length h.length = true) (hk : h.all mj_rnK = true) (he : (List.range h.length).map (fun i => g[π i]?) = h.map (fun c => some (mj_rnC π c))) (hl' : Nat.beq g'.length h'.length = true) (hk' : h'.all mj_rnK = true) (he' : (List.range h'.length).map (fun i => g'[π i]?) = h'.map (fun c => some (mj_rnC π c))) : mj_Ct M as g r g' mc ms d := by
  intro l σ D cT base
  refine MetFree.mono (hC l (fun i => σ (π i)) D cT base) (fun a s hp => ?_) (fun _ _ _ _ _ hh => hh) (fun a s o t _ hq => ?_)
  · obtain ⟨h1, ⟨e1, e2, e3, e4, e5, e6⟩, h3⟩ := hp
    have hnb : ∀ i, Nat.ble mj_NE i = true → Nat.ble mj_NE (π i) = true := fun i hi => by
      by_cases z : π i < mj_NE
      · have q1 := congrArg ρ (ho.2.2.1 (π i) z)
        rw [ho.2.1, ho.2.1] at q1
        rw [q1]; exact hi
      · exact Nat.ble_eq_true_of_le (by omega)
    refine ⟨by rw [h1, ha, mj_rn_L], ⟨e1, e2, fun i q hq => ?_, e4, fun i hi => e5 _ (hnb i hi), fun i j hi hj e => ?_⟩, (mj_rnR ho hl hk he).mp h3⟩
    · dsimp only
      rw [ho.2.2.1 i (mj_stNE hq)]
      exact e3 i q hq
    · have := congrArg ρ (e6 _ _ (hnb i hi) (hnb j hj) e)
      rw [ho.2.1, ho.2.1] at this
      exact this
  · obtain ⟨⟨h1, h2, h3⟩, h4⟩ := hq
    refine ⟨⟨?_, (mj_rnR ho' hl' hk' he').mpr h2, h3⟩, h4⟩
    rw [h1, hr]
    cases r0 with
    | none => rfl
    | some v => exact congrArg (fun z => Outcome.returned (some z)) (mj_rn_cv v).symm
def swp (a b i : Nat) : Nat := if i = a then b else if i = b then a else i
theorem swp2 (a b i : Nat) : swp a b (swp a b i) = i := by
  unfold swp
  by_cases h1 : i = a
  · subst h1
    rw [if_pos rfl]
    by_cases h2 : b = i
    · rw [if_pos h2, h2]
    · rw [if_neg h2, if_pos rfl]
  · rw [if_neg h1]
    by_cases h2 : i = b
    · subst h2
      rw [if_pos rfl, if_pos rfl]
    · rw [if_neg h2, if_neg h1, if_neg h2]
/-- the land at NE + p with its heights at NE + q in the places of the first one -/
theorem swp_ok {p q n : Nat} (h1 : Nat.blt (mj_NE + 34) (mj_NE + p) = true) (h2 : Nat.blt (mj_NE + 34) (mj_NE + q) = true) (h3 : Nat.blt (mj_NE + p) n = true) (h4 : Nat.blt (mj_NE + q) n = true) : mj_rnOK (fun i => swp (mj_NE + 33) (mj_NE + p) (swp (mj_NE + 34) (mj_NE + q) i)) (fun i => swp (mj_NE + 34) (mj_NE + q) (swp (mj_NE + 33) (mj_NE + p) i)) n := by
  have g1 := Nat.blt_eq.mp h1
  have g2 := Nat.blt_eq.mp h2
  have g3 := Nat.blt_eq.mp h3
  have g4 := Nat.blt_eq.mp h4
  refine ⟨fun i => ?_, fun i => ?_, fun i hi => ?_, fun i hi => ?_⟩
  · dsimp only; rw [swp2, swp2]
  · dsimp only; rw [swp2, swp2]
  · have e : swp (mj_NE + 34) (mj_NE + q) i = i := by unfold swp; rw [if_neg (by omega), if_neg (by omega)]
    dsimp only
    rw [e]
    unfold swp
    rw [if_neg (by omega), if_neg (by omega)]
  · have e : swp (mj_NE + 34) (mj_NE + q) i = i := by unfold swp; rw [if_neg (by omega), if_neg (by omega)]
    dsimp only
    rw [e]
    unfold swp
    rw [if_neg (by omega), if_neg (by omega)]
