/-! METHODS THAT THROW: what stands besides, the contract, a throw -/
def mj_decl : List Cond := [.castable "java/lang/IllegalArgumentException" "java/lang/IllegalArgumentException", .castable "java/lang/IndexOutOfBoundsException" "java/lang/IndexOutOfBoundsException", .declares ⟨"java/lang/RuntimeException", "<init>", "()V"⟩, .declares ⟨"java/lang/RuntimeException", "<init>", "(Ljava/lang/String;)V"⟩, .declares ⟨"java/lang/Exception", "<init>", "()V"⟩, .declares ⟨"java/lang/Exception", "<init>", "(Ljava/lang/String;)V"⟩, .declares ⟨"java/lang/Throwable", "<init>", "()V"⟩, .declares ⟨"java/lang/Throwable", "<init>", "(Ljava/lang/String;)V"⟩]
theorem mj_declF : ∀ w ∈ mj_decl, (∃ x, w = .declares x) ∨ ∃ C T, w = .castable C T := by
  intro w hw
  simp only [mj_decl, List.mem_cons, List.not_mem_nil, or_false] at hw
  rcases hw with rfl | rfl | rfl | rfl | rfl | rfl | rfl | rfl
  all_goals first | exact Or.inl ⟨_, rfl⟩ | exact Or.inr ⟨_, _, rfl⟩
def mj_strs : List (Nat × String) := [(218, "a number is out of its range"), (215, "there is no such FIELD"), (171, "back is below 0")]
/-- what the making of an exception wants of a state: words, two static fields of Throwable's, the texts where they lie -/
def mj_Z (base : Nat) (sa : Nat → Nat) (U : State) : Prop := (∀ w ∈ mj_decl, va_Nw w U) ∧ vx_Zq Bundle.tN "UNASSIGNED_STACK" Bundle.steD (fun q => base ≤ q) U U.heap ∧ vx_Zq Bundle.tN "SUPPRESSED_SENTINEL" Bundle.listD (fun q => base ≤ q) U U.heap ∧ ∀ q ∈ mj_strs, vk_R "WatershedMap" q.1 q.2 (sa q.1) U
section MJZ
variable {base : Nat} {sa : Nat → Nat} {s U : State} {H : Heap} {locs : List Loc}
theorem mj_Z.call (h : mj_Z base sa s) (hS : va_S (fun q => base ≤ q) s.heap H locs) (hU : U.heap = H) (hW : s.WarmedH U.vm) : mj_Z base sa U := by
  obtain ⟨h1, h2, h3, h4⟩ := h
  refine ⟨fun w hw => ?_, ?_, ?_, fun q hq => vk_R.warm hW (h4 q hq)⟩
  · rcases mj_declF w hw with ⟨x, rfl⟩ | ⟨C, T, rfl⟩
    · exact va_Nw.warmD hW (h1 _ hw)
    · exact va_Nw.warmC hW (h1 _ hw)
  · rw [hU]; exact (vx_Zq.moved hW.alike h2).kept fun a ha hb => hS.2.1 a ha hb
  · rw [hU]; exact (vx_Zq.moved hW.alike h3).kept fun a ha hb => hS.2.1 a ha hb
theorem mj_Z.calling {g : JFrame} {mk : MethodId} {a : Array Value} (h : mj_Z base sa U) : mj_Z base sa (U.calling g mk a) := by
  obtain ⟨h1, h2, h3, h4⟩ := h
  refine ⟨fun w hw => ?_, vx_Zq.moved (U := U.calling g mk a) (Vm.Alike.refl U.vm) h2, vx_Zq.moved (U := U.calling g mk a) (Vm.Alike.refl U.vm) h3, fun q hq => vk_R.same rfl (h4 q hq)⟩
  rcases mj_declF w hw with ⟨x, rfl⟩ | ⟨C, T, rfl⟩
  · exact va_Nw.same rfl (rfl : U.vm = (U.calling g mk a).vm) (h1 _ hw)
  · exact va_Nw.same rfl (rfl : U.vm = (U.calling g mk a).vm) (h1 _ hw)
end MJZ
def mj_jk (k : Nat) : mj_H := List.replicate k (.inr (9999, []))
def mj_XC (σ : Nat → Nat) (D : va_G) (cT : FieldType → ClassId) (base : Nat) (E : String) (h' : mj_H) : String → State → State → Prop := fun E' st t => E' = E ∧ (∃ k, mj_R0 σ D cT base t (h' ++ mj_jk k) t.heap) ∧ va_F (fun q => base ≤ q) st t
def mj_Px (σ : Nat → Nat) (D : va_G) (cT : FieldType → ClassId) (base : Nat) (sa : Nat → Nat) (as : List Value) (h : mj_H) : Array Value → State → Prop := fun v U => mj_Pc σ D cT base as h v U ∧ mj_Z base sa U
theorem mj_Px.blind {σ : Nat → Nat} {D : va_G} {cT : FieldType → ClassId} {base : Nat} {sa : Nat → Nat} {as : List Value} {h : mj_H} : FrameBlind (mj_Px σ D cT base sa as h) := fun a U g mk ⟨h1, h2⟩ => ⟨mj_Pc.blind a U g mk h1, h2.calling⟩
/-- from the cells h the method M, given 'as', throws an E and leaves the cells h' and things that nobody asks for -/
def mj_Cx (M : mj_M) (as : List Value) (h : mj_H) (E : String) (h' : mj_H) (mc ms d : Nat) : Prop :=
  ∀ (l : Launch), l.stackTraces = false → ∀ (σ : Nat → Nat) (D : va_G) (cT : FieldType → ClassId) (base : Nat) (sa : Nat → Nat), vx_Met l (mM_y M) (mj_wsM M) (mj_rm d mc ms) (mj_Px σ D cT base sa as h) (fun _ _ _ _ => False) (mj_XC σ D cT base E h') mc ms (fun q => base ≤ q)
def mj_Y (E : String) (h' : mj_H) (mc ms : Nat) (κ : mj_K) : Prop := match κ with
  | (_, l, _, _, s, _, args, below, meth, c, Q, σ, D, cT, base) => ∃ sa, Q = vx_MQ below (fun _ _ _ _ => False) (mj_XC σ D cT base E h') args s mc ms (fun q => base ≤ q) ∧ mj_Z base sa s ∧ l.stackTraces = false ∧ meth.locks = false ∧ (∀ x ∈ c.exceptionTable.toList, False)
theorem mj_introX {M : mj_M} {as : List Value} {h : mj_H} {E : String} {h' : mj_H} {mc ms d : Nat} (hA : mj_okA M = true) (hp : plainName (mM_y M).cls = true) (hl : Nat.ble (lg_sl as).length (mM_nl M) = true) (body : ∀ κ : mj_K, mj_X M mc ms d κ → mj_Y E h' mc ms κ → mj_G κ (0, mj_ent as (mM_nl M), [], h, 0, 0)) : mj_Cx M as h E h' mc ms d := by
  obtain ⟨hcode, -, hinit, hown', hpl, -, -, -, -⟩ := mj_okA_Y hA
  intro l hst σ D cT base sa
  refine vx_ofW (cc := mM_cc M) (maxL := mM_nl M) (ret := mM_ret M) hp rfl ?_
  intro p e s m args below meth c s₁ B hml htab hv
  obtain ⟨⟨rfl, hE, hR⟩, hZ⟩ := hv
  have hts0 := atoms_spec (ws := mj_wsM M) B.pre
  have hts : ∀ w ∈ mj_tbl, w.before _ s = true := fun w hw => hts0 w (List.mem_cons_of_mem _ hw)
  have hown : s.vm.findClass (mM_own M) = some m.cls := hown' ▸ findClass_of_methodNamed B.named
  have hin : mj_ini M = true → meth.name = "<init>" := fun h => ((name_of_methodNamed B.named B.method).1).trans (of_decide_eq_true h)
  have hlen : (lg_sl (as.map (mj_cv σ))).length ≤ mM_nl M := by rw [lg_sl_cv]; exact Nat.le_of_ble_eq_true hl
  have hle := lv_entry (as.map (mj_cv σ)) (n := mM_nl M) hlen
  rw [lg_entry_eq]
  generalize (lg_sl (as.map (mj_cv σ)) ++ List.replicate (mM_nl M - (lg_sl (as.map (mj_cv σ))).length) Slot.unset).toArray = ls at hle ⊢
  have hX : mj_X M mc ms d (p, l, e, (headSpec (mj_wsM M) (mj_rm d mc ms)).room, s, m, (as.map (mj_cv σ)).toArray, below, meth, c, vx_MQ below (fun _ _ _ _ => False) (mj_XC σ D cT base E h') (as.map (mj_cv σ)).toArray s mc ms (fun q => base ≤ q), σ, D, cT, base) := ⟨B.exec, B.bytes, hml, hown, hts, hE, hin, Nat.le_refl _, Nat.le_refl _, Nat.le_refl _, Nat.le_refl _⟩
  refine body _ hX ⟨sa, rfl, hZ, hst, B.notSynchronized, htab⟩ s.heap [] ls ⟨hR.1, hR.2.1, hR.2.2, va_S.rf⟩ ⟨by rw [hml]; exact hle.1, hle.2.1, fun i v hi hv => ?_⟩
  have h2 : (mj_entA as)[i]? = some v := by
    unfold mj_ent at hi
    by_cases hlt : i < (mj_entA as).length
    · rw [List.getElem?_append_left hlt] at hi
      exact hi
    · rw [List.getElem?_append_right (by omega)] at hi
      exact absurd (List.eq_of_mem_replicate (List.mem_of_getElem? hi)) hv
  have h3 := mj_entA_in (σ := σ) as 0 i v h2 hv
  rw [Nat.zero_add] at h3
  exact hle.2.2 (i, mj_cv σ v) h3
def mj_psA : List Nat := [57, 594, 603, 606, 609, 611, 595, 596, 79, 80, 597, 602, 607, 627, 584, 628, 586, 629, 588, 598, 600, 590, 623, 624, 626, 590, 614, 615, 616, 617, 576, 617, 618, 619, 620, 578, 620, 621, 622, 623, 580, 613, 573, 574, 581, 582, 583, 585, 587, 589, 593, 592, 591]
def mj_psB : List Nat := [57, 594, 603, 606, 609, 611, 595, 596, 79, 80, 597, 602, 607, 627, 584, 628, 586, 629, 588, 598, 600, 590, 623, 624, 626, 590, 663, 664, 665, 617, 576, 617, 618, 619, 620, 578, 620, 621, 622, 623, 580, 662, 653, 654, 655, 605, 656, 657, 658, 659, 593, 592, 660]
abbrev mj_nms : List String := ["java/lang/RuntimeException", "java/lang/Exception"]
theorem mj_atA : (vx_atS "WatershedMap" 173 "java/lang/IllegalArgumentException" mj_nms).map some = mj_psA.map (fun i => lw_tbl[i]?) ∧ (vx_atS "WatershedMap" 173 "java/lang/IllegalArgumentException" mj_nms).all (fun w => goodWord w || mj_decl.contains w) = true ∧ (Cond.classLink "WatershedMap" 169 "java/lang/IllegalArgumentException" :: Cond.initialized "java/lang/IllegalArgumentException" :: vx_atS "WatershedMap" 173 "java/lang/IllegalArgumentException" mj_nms).all vx_ot = true := by decide +kernel
theorem mj_atB : (vx_atS "WatershedMap" 217 "java/lang/IndexOutOfBoundsException" mj_nms).map some = mj_psB.map (fun i => lw_tbl[i]?) ∧ (vx_atS "WatershedMap" 217 "java/lang/IndexOutOfBoundsException" mj_nms).all (fun w => goodWord w || mj_decl.contains w) = true ∧ (Cond.classLink "WatershedMap" 213 "java/lang/IndexOutOfBoundsException" :: Cond.initialized "java/lang/IndexOutOfBoundsException" :: vx_atS "WatershedMap" 217 "java/lang/IndexOutOfBoundsException" mj_nms).all vx_ot = true := by decide +kernel
theorem mj_atW {L : List Cond} {ps : List Nat} (h1 : L.map some = ps.map (fun i => lw_tbl[i]?)) (h2 : L.all (fun w => goodWord w || mj_decl.contains w) = true) {args : Array Value} {s : State} (hts : ∀ w ∈ mj_tbl, w.before args s = true) (hd : ∀ w ∈ mj_decl, va_Nw w s) : ∀ w ∈ L, w.before args s = true := by
  intro w hw
  have hm : some w ∈ ps.map (fun i => lw_tbl[i]?) := by rw [← h1]; exact List.mem_map.mpr ⟨w, hw, rfl⟩
  obtain ⟨i, -, hi⟩ := List.mem_map.mp hm
  have hg := List.all_eq_true.mp h2 w hw
  simp only [Bool.or_eq_true] at hg
  rcases hg with hg | hg
  · exact hts w (mj_in hi hg)
  · have hq := List.contains_iff_mem.mp hg
    rcases mj_declF w hq with ⟨x, rfl⟩ | ⟨C, T, rfl⟩
    · exact va_Nw.use rfl (hd _ hq)
    · exact va_Nw.use rfl (hd _ hq)
