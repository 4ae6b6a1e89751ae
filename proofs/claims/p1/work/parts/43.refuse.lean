/-! the face: what each method refuses -/
theorem cx_V {M M' : mj_M} (hA : mj_okA M = true) (hA' : mj_okA M' = true) (hp : plainName (mM_y M).cls = true) {as : List Value} (hl : Nat.ble (lg_sl as).length (mM_nl M) = true) {h h1 : mj_H} {E : String} {pc q : Nat} {L st As rest : List Value} {mc ms d mc' ms' d' : Nat} (hR : mj_Rc M mc ms d (0, mj_ent as (mM_nl M), [], h, 0, 0) (pc, L, st, h1, 0, 0)) (hC : mj_Cx M' (.ref q :: As) h1 E h1 mc' ms' d') (hi : mj_isV (mj_cd M pc) M' = true) (hsel : lw_tbl[mM_p3 M']? = some (Cond.selects (mM_y M').cls (mM_y M') (mM_y M')) ∧ lw_tbl[mM_p2 M']? = some (Cond.instanceMethod (mM_y M'))) (hst : st = As.reverse ++ .ref q :: rest) (hn : As.length = mM_np M') (hrc : mj_rcv h1 q M' = true) (hw : Nat.ble ((rest.map fun v => v.category).sum) 8 = true) (hroom : Nat.ble (0 + mc') mc = true ∧ Nat.ble (0 + ms') ms = true ∧ Nat.blt d' d = true) : mj_Cx M as h E h1 mc ms d :=
  mj_introX hA hp hl fun κ hX hY => hR κ hX (g_callVX hX hA hA' hY hC hi hsel hst hn hrc hw ⟨hroom.1, hroom.2.1, hroom.2.2, hroom.1, hroom.2.1⟩)
theorem cx_S {M M' : mj_M} (hA : mj_okA M = true) (hA' : mj_okA M' = true) (hp : plainName (mM_y M).cls = true) {as : List Value} (hl : Nat.ble (lg_sl as).length (mM_nl M) = true) {h h1 : mj_H} {E : String} {pc : Nat} {L st As rest : List Value} {mc ms d mc' ms' d' : Nat} (hR : mj_Rc M mc ms d (0, mj_ent as (mM_nl M), [], h, 0, 0) (pc, L, st, h1, 0, 0)) (hC : mj_Cx M' As h1 E h1 mc' ms' d') (hi : mj_isS (mj_cd M pc) M' = true) (hsta : lw_tbl[mM_p2 M']? = some (Cond.static (mM_y M'))) (hst : st = As.reverse ++ rest) (hn : As.length = mM_np M') (hw : Nat.ble ((rest.map fun v => v.category).sum) 8 = true) (hroom : Nat.ble (0 + mc') mc = true ∧ Nat.ble (0 + ms') ms = true ∧ Nat.blt d' d = true) : mj_Cx M as h E h1 mc ms d :=
  mj_introX hA hp hl fun κ hX hY => hR κ hX (g_callSX hX hA hA' hY hC hi hsta hst hn hw ⟨hroom.1, hroom.2.1, hroom.2.2, hroom.1, hroom.2.1⟩)
theorem cx_T {M : mj_M} (hA : mj_okA M = true) (hp : plainName (mM_y M).cls = true) (hO : mM_own M = "WatershedMap") {as : List Value} (hl : Nat.ble (lg_sl as).length (mM_nl M) = true) {h h1 : mj_H} {E text : String} {ik is ic pc pk pi : Nat} {ps : List Nat} {L rest : List Value} (hR : mj_Rc M 1 6 8 (0, mj_ent as (mM_nl M), [], h, 0, 0) (pc, L, rest, h1, 0, 0)) (hfit : Bundle.fit E = true) (hk : lw_tbl[pk]? = some (Cond.classLink "WatershedMap" ik E)) (hi : lw_tbl[pi]? = some (Cond.initialized E)) (hstr : (is, text) ∈ mj_strs) (hat : (vx_atS "WatershedMap" ic E mj_nms).map some = ps.map (fun i => lw_tbl[i]?) ∧ (vx_atS "WatershedMap" ic E mj_nms).all (fun w => goodWord w || mj_decl.contains w) = true ∧ (Cond.classLink "WatershedMap" ik E :: Cond.initialized E :: vx_atS "WatershedMap" ic E mj_nms).all vx_ot = true)
    (hd : decode (mM_cc M) pc = .ok (.new ik, 3) ∧ decode (mM_cc M) (pc + 3) = .ok (.dup, 1) ∧ decode (mM_cc M) (pc + 4) = .ok (.ldc is, 2) ∧ decode (mM_cc M) (pc + 6) = .ok (.invokespecial ic, 3) ∧ decode (mM_cc M) (pc + 9) = .ok (.athrow, 1)) (hw : Nat.ble ((rest.map fun v => v.category).sum) 8 = true) : mj_Cx M as h E h1 1 6 8 :=
  mj_introX hA hp hl fun κ hX hY => hR κ hX (g_throwS hX hO hY hfit hk hi hstr hat hd hw ⟨by omega, by omega, by omega, by omega, by omega⟩)
section REFUSE
variable {xs : Nat → Int32} {L : Nat} {A : Nat → Nat → Int32} {V : Nat → Int32} {Y : mj_H}
variable {w h : Int} {n : Nat} {H : Nat → Int}
theorem c_hasN {x y : Int} (h0 : V 0 = iI w) (h1 : V 1 = iI h) (hw : 2 ≤ w ∧ w ≤ 16) (hh : 2 ≤ h ∧ h ≤ 16) (hno : ¬ ((0 ≤ x ∧ x < w) ∧ 0 ≤ y ∧ y < h)) (rx : -2147483648 ≤ x ∧ x ≤ 2147483647) (ry : -2147483648 ≤ y ∧ y ≤ 2147483647) : mj_Ct m_Land_has [.ref (mj_NE + 1), .int (iI x), .int (iI y)] (Wd xs L A V Y) (some (.int 0)) (Wd xs L A V Y) 0 0 0 := by
  by_cases q1 : x < 0
  · exact ct_of ok_Land_has rfl (r_to ok_Land_has 9999 [true] rfl ⟨(iI_lt (b := 0) rx ⟨by omega, by omega⟩).mpr q1, trivial⟩) rfl rfl ⟨rfl, rfl⟩ rfl rfl
  · have n1 : ¬ (iI x < 0) := fun q => q1 ((iI_lt (b := 0) rx ⟨by omega, by omega⟩).mp q)
    by_cases q2 : w ≤ x
    · exact ct_of ok_Land_has rfl (r_to ok_Land_has 9999 [false, true] rfl ⟨n1, by show V 0 ≤ iI x; rw [h0, iI_le ⟨by omega, by omega⟩ rx]; exact q2, trivial⟩) rfl rfl ⟨rfl, rfl⟩ rfl rfl
    · have n2 : ¬ (V 0 ≤ iI x) := by rw [h0, iI_le ⟨by omega, by omega⟩ rx]; exact q2
      by_cases q3 : y < 0
      · exact ct_of ok_Land_has rfl (r_to ok_Land_has 9999 [false, false, true] rfl ⟨n1, n2, (iI_lt (b := 0) ry ⟨by omega, by omega⟩).mpr q3, trivial⟩) rfl rfl ⟨rfl, rfl⟩ rfl rfl
      · have n3 : ¬ (iI y < 0) := fun q => q3 ((iI_lt (b := 0) ry ⟨by omega, by omega⟩).mp q)
        exact ct_of ok_Land_has rfl (r_to ok_Land_has 9999 [false, false, false, true] rfl ⟨n1, n2, n3, by show V 1 ≤ iI y; rw [h1, iI_le ⟨by omega, by omega⟩ ry]; omega, trivial⟩) rfl rfl ⟨rfl, rfl⟩ rfl rfl
theorem x_checkRange {v lo hi : Int} {hp : mj_H} (hno : ¬ (lo ≤ v ∧ v ≤ hi)) (rv : -2147483648 ≤ v ∧ v ≤ 2147483647) (h2 : -2147483648 ≤ lo ∧ lo ≤ 2147483647 ∧ -2147483648 ≤ hi ∧ hi ≤ 2147483647) : mj_Cx m_W_checkRange [.int (iI v), .int (iI lo), .int (iI hi)] hp "java/lang/IllegalArgumentException" hp 1 6 8 := by
  by_cases q : v < lo
  · have t1 := r_to (RC := 1) (RS := 6) (dd := 8) (g := (0, [.int (iI v), .int (iI lo), .int (iI hi)], [], hp, 0, 0)) (g' := (10, [.int (iI v), .int (iI lo), .int (iI hi)], [], hp, 0, 0)) ok_W_checkRange 10 [true] rfl ⟨by
      show iI v < iI lo
      rw [iI_lt rv ⟨by omega, by omega⟩]
      exact q, trivial⟩
    exact cx_T ok_W_checkRange (by decide) rfl rfl (t1) (E := "java/lang/IllegalArgumentException") (text := "a number is out of its range") (ik := 169) (is := 218) (ic := 173) (pk := 572) (pi := 60) (ps := mj_psA) (by decide) (by decide +kernel) (by decide +kernel) (by decide) mj_atA ⟨by decide +kernel, by decide +kernel, by decide +kernel, by decide +kernel, by decide +kernel⟩ rfl
  · have t1 := r_to (RC := 1) (RS := 6) (dd := 8) (g := (0, [.int (iI v), .int (iI lo), .int (iI hi)], [], hp, 0, 0)) (g' := (10, [.int (iI v), .int (iI lo), .int (iI hi)], [], hp, 0, 0)) ok_W_checkRange 10 [false, false] rfl ⟨by
      show ¬ (iI v < iI lo)
      rw [iI_lt rv ⟨by omega, by omega⟩]
      exact q, by
      show ¬ (iI v ≤ iI hi)
      rw [iI_le rv ⟨by omega, by omega⟩]
      omega, trivial⟩
    exact cx_T ok_W_checkRange (by decide) rfl rfl (t1) (E := "java/lang/IllegalArgumentException") (text := "a number is out of its range") (ik := 169) (is := 218) (ic := 173) (pk := 572) (pi := 60) (ps := mj_psA) (by decide) (by decide +kernel) (by decide +kernel) (by decide) mj_atA ⟨by decide +kernel, by decide +kernel, by decide +kernel, by decide +kernel, by decide +kernel⟩ rfl
theorem x_checkField {x y : Int} (hL : LdOK w h n H A V) (hno : ¬ ((0 ≤ x ∧ x < w) ∧ 0 ≤ y ∧ y < h)) (rx : -2147483648 ≤ x ∧ x ≤ 2147483647) (ry : -2147483648 ≤ y ∧ y ≤ 2147483647) : mj_Cx m_W_checkField [.ref (mj_NE + 0), .int (iI x), .int (iI y)] (Wd xs L A V Y) "java/lang/IndexOutOfBoundsException" (Wd xs L A V Y) 1 6 8 := by
  obtain ⟨h0, h1, hV, hnw, hw, hh, hN, hH⟩ := hL
  have t1 := r_to (RC := 1) (RS := 6) (dd := 8) (g := (0, [.ref (mj_NE + 0), .int (iI x), .int (iI y)], [], Wd xs L A V Y, 0, 0)) (g' := (6, [.ref (mj_NE + 0), .int (iI x), .int (iI y)], [.int (iI y), .int (iI x), .ref (mj_NE + 1)], Wd xs L A V Y, 0, 0)) ok_W_checkField 9999 [] rfl trivial
  have t2 := r_tr t1 (q_V ok_W_checkField ok_Land_has se_Land_has (c_hasN h0 h1 hw hh hno rx ry) rfl rfl rfl rfl rfl ⟨rfl, rfl, rfl⟩)
  have t3 := r_tr t2 (r_to (g' := (12, [.ref (mj_NE + 0), .int (iI x), .int (iI y)], [], Wd xs L A V Y, 0, 0)) ok_W_checkField 12 [false] rfl ⟨fun q => q rfl, trivial⟩)
  exact cx_T ok_W_checkField (by decide) rfl rfl (t3) (E := "java/lang/IndexOutOfBoundsException") (text := "there is no such FIELD") (ik := 213) (is := 215) (ic := 217) (pk := 652) (pi := 61) (ps := mj_psB) (by decide) (by decide +kernel) (by decide +kernel) (by decide) mj_atB ⟨by decide +kernel, by decide +kernel, by decide +kernel, by decide +kernel, by decide +kernel⟩ rfl
theorem x_reset0 {p q : Int} (hno : ¬ (2 ≤ p ∧ p ≤ 16)) (rp : -2147483648 ≤ p ∧ p ≤ 2147483647) : mj_Cx m_W_reset [.ref (mj_NE + 0), .int (iI p), .int (iI q)] (Wd xs L A V Y) "java/lang/IllegalArgumentException" (Wd xs L A V Y) 1 6 9 := by
  have t1 := r_to (RC := 1) (RS := 6) (dd := 9) (g := (0, [.ref (mj_NE + 0), .int (iI p), .int (iI q)], [], Wd xs L A V Y, 0, 0)) (g' := (4, [.ref (mj_NE + 0), .int (iI p), .int (iI q)], [.int (iI (16)), .int (iI (2)), .int (iI p)], Wd xs L A V Y, 0, 0)) ok_W_reset 9999 [] rfl trivial
  exact cx_S ok_W_reset ok_W_checkRange (by decide) rfl t1 (x_checkRange hno rp ⟨by omega, by omega, by omega, by omega⟩) rfl st_W_checkRange rfl rfl rfl ⟨rfl, rfl, rfl⟩
theorem x_reset1 {p q : Int} (hp : 2 ≤ p ∧ p ≤ 16) (hno : ¬ (2 ≤ q ∧ q ≤ 16)) (rq : -2147483648 ≤ q ∧ q ≤ 2147483647) : mj_Cx m_W_reset [.ref (mj_NE + 0), .int (iI p), .int (iI q)] (Wd xs L A V Y) "java/lang/IllegalArgumentException" (Wd xs L A V Y) 1 6 9 := by
  have t1 := r_to (RC := 1) (RS := 6) (dd := 9) (g := (0, [.ref (mj_NE + 0), .int (iI p), .int (iI q)], [], Wd xs L A V Y, 0, 0)) (g' := (4, [.ref (mj_NE + 0), .int (iI p), .int (iI q)], [.int (iI (16)), .int (iI (2)), .int (iI p)], Wd xs L A V Y, 0, 0)) ok_W_reset 9999 [] rfl trivial
  have t2 := r_tr t1 (q_S ok_W_reset ok_W_checkRange st_W_checkRange (f_checkRange hp ⟨by omega, by omega⟩) rfl rfl rfl rfl ⟨rfl, rfl, rfl⟩)
  have t3 := r_tr t2 (r_to (g' := (11, [.ref (mj_NE + 0), .int (iI p), .int (iI q)], [.int (iI (16)), .int (iI (2)), .int (iI q)], Wd xs L A V Y, 0, 0)) ok_W_reset 9999 [] rfl trivial)
  exact cx_S ok_W_reset ok_W_checkRange (by decide) rfl t3 (x_checkRange hno rq ⟨by omega, by omega, by omega, by omega⟩) rfl st_W_checkRange rfl rfl rfl ⟨rfl, rfl, rfl⟩
theorem x_set0 {x y z : Int} (hL : LdOK w h n H A V) (hno : ¬ ((0 ≤ (x : Int) ∧ (x : Int) < w) ∧ 0 ≤ y ∧ y < h)) (rx : -2147483648 ≤ x ∧ x ≤ 2147483647) (ry : -2147483648 ≤ y ∧ y ≤ 2147483647) : mj_Cx m_W_set [.ref (mj_NE + 0), .int (iI x), .int (iI y), .int (iI z)] (Wd xs L A V Y) "java/lang/IndexOutOfBoundsException" (Wd xs L A V Y) 1 6 9 := by
  have hL2 := hL
  obtain ⟨h0, h1, hV, hnw, hw, hh, hN, hH⟩ := hL2
  have t1 := r_to (RC := 1) (RS := 6) (dd := 9) (g := (0, [.ref (mj_NE + 0), .int (iI x), .int (iI y), .int (iI z)], [], Wd xs L A V Y, 0, 0)) (g' := (3, [.ref (mj_NE + 0), .int (iI x), .int (iI y), .int (iI z)], [.int (iI y), .int (iI x), .ref (mj_NE + 0)], Wd xs L A V Y, 0, 0)) ok_W_set 9999 [] rfl trivial
  exact cx_V ok_W_set ok_W_checkField (by decide) rfl t1 (x_checkField hL hno rx ry) rfl se_W_checkField rfl rfl rfl rfl ⟨rfl, rfl, rfl⟩
theorem x_set1 {x y z : Int} (hL : LdOK w h n H A V) (hx : 0 ≤ x ∧ x < w) (hy : 0 ≤ y ∧ y < h) (hno : ¬ (0 ≤ z ∧ z ≤ 999)) (rz : -2147483648 ≤ z ∧ z ≤ 2147483647) : mj_Cx m_W_set [.ref (mj_NE + 0), .int (iI x), .int (iI y), .int (iI z)] (Wd xs L A V Y) "java/lang/IllegalArgumentException" (Wd xs L A V Y) 1 6 9 := by
  have hL2 := hL
  obtain ⟨h0, h1, hV, hnw, hw, hh, hN, hH⟩ := hL2
  have t1 := r_to (RC := 1) (RS := 6) (dd := 9) (g := (0, [.ref (mj_NE + 0), .int (iI x), .int (iI y), .int (iI z)], [], Wd xs L A V Y, 0, 0)) (g' := (3, [.ref (mj_NE + 0), .int (iI x), .int (iI y), .int (iI z)], [.int (iI y), .int (iI x), .ref (mj_NE + 0)], Wd xs L A V Y, 0, 0)) ok_W_set 9999 [] rfl trivial
  have t2 := r_tr t1 (q_V ok_W_set ok_W_checkField se_W_checkField (f_checkField hL hx hy) rfl rfl rfl rfl rfl ⟨rfl, rfl, rfl⟩)
  have t3 := r_tr t2 (r_to (g' := (11, [.ref (mj_NE + 0), .int (iI x), .int (iI y), .int (iI z)], [.int (iI (999)), .int (iI (0)), .int (iI z)], Wd xs L A V Y, 0, 0)) ok_W_set 9999 [] rfl trivial)
  exact cx_S ok_W_set ok_W_checkRange (by decide) rfl t3 (x_checkRange hno rz ⟨by omega, by omega, by omega, by omega⟩) rfl st_W_checkRange rfl rfl rfl ⟨rfl, rfl, rfl⟩
theorem x_tilt0 {p q r : Int} (hno : ¬ (-100 ≤ p ∧ p ≤ 100)) (rp : -2147483648 ≤ p ∧ p ≤ 2147483647) : mj_Cx m_W_tilt [.ref (mj_NE + 0), .int (iI p), .int (iI q), .int (iI r)] (Wd xs L A V Y) "java/lang/IllegalArgumentException" (Wd xs L A V Y) 1 6 9 := by
  have t1 := r_to (RC := 1) (RS := 6) (dd := 9) (g := (0, [.ref (mj_NE + 0), .int (iI p), .int (iI q), .int (iI r)], [], Wd xs L A V Y, 0, 0)) (g' := (5, [.ref (mj_NE + 0), .int (iI p), .int (iI q), .int (iI r)], [.int (iI (100)), .int (iI (-100)), .int (iI p)], Wd xs L A V Y, 0, 0)) ok_W_tilt 9999 [] rfl trivial
  exact cx_S ok_W_tilt ok_W_checkRange (by decide) rfl t1 (x_checkRange hno rp ⟨by omega, by omega, by omega, by omega⟩) rfl st_W_checkRange rfl rfl rfl ⟨rfl, rfl, rfl⟩
theorem x_tilt1 {p q r : Int} (hp : -100 ≤ p ∧ p ≤ 100) (hno : ¬ (-100 ≤ q ∧ q ≤ 100)) (rq : -2147483648 ≤ q ∧ q ≤ 2147483647) : mj_Cx m_W_tilt [.ref (mj_NE + 0), .int (iI p), .int (iI q), .int (iI r)] (Wd xs L A V Y) "java/lang/IllegalArgumentException" (Wd xs L A V Y) 1 6 9 := by
  have t1 := r_to (RC := 1) (RS := 6) (dd := 9) (g := (0, [.ref (mj_NE + 0), .int (iI p), .int (iI q), .int (iI r)], [], Wd xs L A V Y, 0, 0)) (g' := (5, [.ref (mj_NE + 0), .int (iI p), .int (iI q), .int (iI r)], [.int (iI (100)), .int (iI (-100)), .int (iI p)], Wd xs L A V Y, 0, 0)) ok_W_tilt 9999 [] rfl trivial
  have t2 := r_tr t1 (q_S ok_W_tilt ok_W_checkRange st_W_checkRange (f_checkRange hp ⟨by omega, by omega⟩) rfl rfl rfl rfl ⟨rfl, rfl, rfl⟩)
  have t3 := r_tr t2 (r_to (g' := (13, [.ref (mj_NE + 0), .int (iI p), .int (iI q), .int (iI r)], [.int (iI (100)), .int (iI (-100)), .int (iI q)], Wd xs L A V Y, 0, 0)) ok_W_tilt 9999 [] rfl trivial)
  exact cx_S ok_W_tilt ok_W_checkRange (by decide) rfl t3 (x_checkRange hno rq ⟨by omega, by omega, by omega, by omega⟩) rfl st_W_checkRange rfl rfl rfl ⟨rfl, rfl, rfl⟩
theorem x_tilt2 {p q r : Int} (hp : -100 ≤ p ∧ p ≤ 100) (hq : -100 ≤ q ∧ q ≤ 100) (hno : ¬ (-100 ≤ r ∧ r ≤ 100)) (rr : -2147483648 ≤ r ∧ r ≤ 2147483647) : mj_Cx m_W_tilt [.ref (mj_NE + 0), .int (iI p), .int (iI q), .int (iI r)] (Wd xs L A V Y) "java/lang/IllegalArgumentException" (Wd xs L A V Y) 1 6 9 := by
  have t1 := r_to (RC := 1) (RS := 6) (dd := 9) (g := (0, [.ref (mj_NE + 0), .int (iI p), .int (iI q), .int (iI r)], [], Wd xs L A V Y, 0, 0)) (g' := (5, [.ref (mj_NE + 0), .int (iI p), .int (iI q), .int (iI r)], [.int (iI (100)), .int (iI (-100)), .int (iI p)], Wd xs L A V Y, 0, 0)) ok_W_tilt 9999 [] rfl trivial
  have t2 := r_tr t1 (q_S ok_W_tilt ok_W_checkRange st_W_checkRange (f_checkRange hp ⟨by omega, by omega⟩) rfl rfl rfl rfl ⟨rfl, rfl, rfl⟩)
  have t3 := r_tr t2 (r_to (g' := (13, [.ref (mj_NE + 0), .int (iI p), .int (iI q), .int (iI r)], [.int (iI (100)), .int (iI (-100)), .int (iI q)], Wd xs L A V Y, 0, 0)) ok_W_tilt 9999 [] rfl trivial)
  have t4 := r_tr t3 (q_S ok_W_tilt ok_W_checkRange st_W_checkRange (f_checkRange hq ⟨by omega, by omega⟩) rfl rfl rfl rfl ⟨rfl, rfl, rfl⟩)
  have t5 := r_tr t4 (r_to (g' := (21, [.ref (mj_NE + 0), .int (iI p), .int (iI q), .int (iI r)], [.int (iI (100)), .int (iI (-100)), .int (iI r)], Wd xs L A V Y, 0, 0)) ok_W_tilt 9999 [] rfl trivial)
  exact cx_S ok_W_tilt ok_W_checkRange (by decide) rfl t5 (x_checkRange hno rr ⟨by omega, by omega, by omega, by omega⟩) rfl st_W_checkRange rfl rfl rfl ⟨rfl, rfl, rfl⟩
theorem x_hill0 {x y r b : Int} (hL : LdOK w h n H A V) (hno : ¬ ((0 ≤ (x : Int) ∧ (x : Int) < w) ∧ 0 ≤ y ∧ y < h)) (rx : -2147483648 ≤ x ∧ x ≤ 2147483647) (ry : -2147483648 ≤ y ∧ y ≤ 2147483647) : mj_Cx m_W_hill [.ref (mj_NE + 0), .int (iI x), .int (iI y), .int (iI r), .int (iI b)] (Wd xs L A V Y) "java/lang/IndexOutOfBoundsException" (Wd xs L A V Y) 1 6 9 := by
  have hL2 := hL
  obtain ⟨h0, h1, hV, hnw, hw, hh, hN, hH⟩ := hL2
  have t1 := r_to (RC := 1) (RS := 6) (dd := 9) (g := (0, [.ref (mj_NE + 0), .int (iI x), .int (iI y), .int (iI r), .int (iI b)], [], Wd xs L A V Y, 0, 0)) (g' := (3, [.ref (mj_NE + 0), .int (iI x), .int (iI y), .int (iI r), .int (iI b)], [.int (iI y), .int (iI x), .ref (mj_NE + 0)], Wd xs L A V Y, 0, 0)) ok_W_hill 9999 [] rfl trivial
  exact cx_V ok_W_hill ok_W_checkField (by decide) rfl t1 (x_checkField hL hno rx ry) rfl se_W_checkField rfl rfl rfl rfl ⟨rfl, rfl, rfl⟩
theorem x_hill1 {x y r b : Int} (hL : LdOK w h n H A V) (hx : 0 ≤ x ∧ x < w) (hy : 0 ≤ y ∧ y < h) (hno : ¬ (0 ≤ r ∧ r ≤ 8)) (rr : -2147483648 ≤ r ∧ r ≤ 2147483647) : mj_Cx m_W_hill [.ref (mj_NE + 0), .int (iI x), .int (iI y), .int (iI r), .int (iI b)] (Wd xs L A V Y) "java/lang/IllegalArgumentException" (Wd xs L A V Y) 1 6 9 := by
  have hL2 := hL
  obtain ⟨h0, h1, hV, hnw, hw, hh, hN, hH⟩ := hL2
  have t1 := r_to (RC := 1) (RS := 6) (dd := 9) (g := (0, [.ref (mj_NE + 0), .int (iI x), .int (iI y), .int (iI r), .int (iI b)], [], Wd xs L A V Y, 0, 0)) (g' := (3, [.ref (mj_NE + 0), .int (iI x), .int (iI y), .int (iI r), .int (iI b)], [.int (iI y), .int (iI x), .ref (mj_NE + 0)], Wd xs L A V Y, 0, 0)) ok_W_hill 9999 [] rfl trivial
  have t2 := r_tr t1 (q_V ok_W_hill ok_W_checkField se_W_checkField (f_checkField hL hx hy) rfl rfl rfl rfl rfl ⟨rfl, rfl, rfl⟩)
  have t3 := r_tr t2 (r_to (g' := (10, [.ref (mj_NE + 0), .int (iI x), .int (iI y), .int (iI r), .int (iI b)], [.int (iI (8)), .int (iI (0)), .int (iI r)], Wd xs L A V Y, 0, 0)) ok_W_hill 9999 [] rfl trivial)
  exact cx_S ok_W_hill ok_W_checkRange (by decide) rfl t3 (x_checkRange hno rr ⟨by omega, by omega, by omega, by omega⟩) rfl st_W_checkRange rfl rfl rfl ⟨rfl, rfl, rfl⟩
theorem x_hill2 {x y r b : Int} (hL : LdOK w h n H A V) (hx : 0 ≤ x ∧ x < w) (hy : 0 ≤ y ∧ y < h) (hr : 0 ≤ r ∧ r ≤ 8) (hno : ¬ (-500 ≤ b ∧ b ≤ 500)) (rb : -2147483648 ≤ b ∧ b ≤ 2147483647) : mj_Cx m_W_hill [.ref (mj_NE + 0), .int (iI x), .int (iI y), .int (iI r), .int (iI b)] (Wd xs L A V Y) "java/lang/IllegalArgumentException" (Wd xs L A V Y) 1 6 9 := by
  have hL2 := hL
  obtain ⟨h0, h1, hV, hnw, hw, hh, hN, hH⟩ := hL2
  have t1 := r_to (RC := 1) (RS := 6) (dd := 9) (g := (0, [.ref (mj_NE + 0), .int (iI x), .int (iI y), .int (iI r), .int (iI b)], [], Wd xs L A V Y, 0, 0)) (g' := (3, [.ref (mj_NE + 0), .int (iI x), .int (iI y), .int (iI r), .int (iI b)], [.int (iI y), .int (iI x), .ref (mj_NE + 0)], Wd xs L A V Y, 0, 0)) ok_W_hill 9999 [] rfl trivial
  have t2 := r_tr t1 (q_V ok_W_hill ok_W_checkField se_W_checkField (f_checkField hL hx hy) rfl rfl rfl rfl rfl ⟨rfl, rfl, rfl⟩)
  have t3 := r_tr t2 (r_to (g' := (10, [.ref (mj_NE + 0), .int (iI x), .int (iI y), .int (iI r), .int (iI b)], [.int (iI (8)), .int (iI (0)), .int (iI r)], Wd xs L A V Y, 0, 0)) ok_W_hill 9999 [] rfl trivial)
  have t4 := r_tr t3 (q_S ok_W_hill ok_W_checkRange st_W_checkRange (f_checkRange hr ⟨by omega, by omega⟩) rfl rfl rfl rfl ⟨rfl, rfl, rfl⟩)
  have t5 := r_tr t4 (r_to (g' := (21, [.ref (mj_NE + 0), .int (iI x), .int (iI y), .int (iI r), .int (iI b)], [.int (iI (500)), .int (iI (-500)), .int (iI b)], Wd xs L A V Y, 0, 0)) ok_W_hill 9999 [] rfl trivial)
  exact cx_S ok_W_hill ok_W_checkRange (by decide) rfl t5 (x_checkRange hno rb ⟨by omega, by omega, by omega, by omega⟩) rfl st_W_checkRange rfl rfl rfl ⟨rfl, rfl, rfl⟩
theorem x_dig0 {x y p q z : Int} (hL : LdOK w h n H A V) (hno : ¬ ((0 ≤ (x : Int) ∧ (x : Int) < w) ∧ 0 ≤ y ∧ y < h)) (rx : -2147483648 ≤ x ∧ x ≤ 2147483647) (ry : -2147483648 ≤ y ∧ y ≤ 2147483647) : mj_Cx m_W_dig [.ref (mj_NE + 0), .int (iI x), .int (iI y), .int (iI p), .int (iI q), .int (iI z)] (Wd xs L A V Y) "java/lang/IndexOutOfBoundsException" (Wd xs L A V Y) 1 6 9 := by
  have hL2 := hL
  obtain ⟨h0, h1, hV, hnw, hw, hh, hN, hH⟩ := hL2
  have t1 := r_to (RC := 1) (RS := 6) (dd := 9) (g := (0, [.ref (mj_NE + 0), .int (iI x), .int (iI y), .int (iI p), .int (iI q), .int (iI z)], [], Wd xs L A V Y, 0, 0)) (g' := (3, [.ref (mj_NE + 0), .int (iI x), .int (iI y), .int (iI p), .int (iI q), .int (iI z)], [.int (iI y), .int (iI x), .ref (mj_NE + 0)], Wd xs L A V Y, 0, 0)) ok_W_dig 9999 [] rfl trivial
  exact cx_V ok_W_dig ok_W_checkField (by decide) rfl t1 (x_checkField hL hno rx ry) rfl se_W_checkField rfl rfl rfl rfl ⟨rfl, rfl, rfl⟩
theorem x_dig1 {x y p q z : Int} (hL : LdOK w h n H A V) (hx : 0 ≤ x ∧ x < w) (hy : 0 ≤ y ∧ y < h) (hno : ¬ ((0 ≤ (p : Int) ∧ (p : Int) < w) ∧ 0 ≤ q ∧ q < h)) (rp : -2147483648 ≤ p ∧ p ≤ 2147483647) (rq : -2147483648 ≤ q ∧ q ≤ 2147483647) : mj_Cx m_W_dig [.ref (mj_NE + 0), .int (iI x), .int (iI y), .int (iI p), .int (iI q), .int (iI z)] (Wd xs L A V Y) "java/lang/IndexOutOfBoundsException" (Wd xs L A V Y) 1 6 9 := by
  have hL2 := hL
  obtain ⟨h0, h1, hV, hnw, hw, hh, hN, hH⟩ := hL2
  have t1 := r_to (RC := 1) (RS := 6) (dd := 9) (g := (0, [.ref (mj_NE + 0), .int (iI x), .int (iI y), .int (iI p), .int (iI q), .int (iI z)], [], Wd xs L A V Y, 0, 0)) (g' := (3, [.ref (mj_NE + 0), .int (iI x), .int (iI y), .int (iI p), .int (iI q), .int (iI z)], [.int (iI y), .int (iI x), .ref (mj_NE + 0)], Wd xs L A V Y, 0, 0)) ok_W_dig 9999 [] rfl trivial
  have t2 := r_tr t1 (q_V ok_W_dig ok_W_checkField se_W_checkField (f_checkField hL hx hy) rfl rfl rfl rfl rfl ⟨rfl, rfl, rfl⟩)
  have t3 := r_tr t2 (r_to (g' := (10, [.ref (mj_NE + 0), .int (iI x), .int (iI y), .int (iI p), .int (iI q), .int (iI z)], [.int (iI q), .int (iI p), .ref (mj_NE + 0)], Wd xs L A V Y, 0, 0)) ok_W_dig 9999 [] rfl trivial)
  exact cx_V ok_W_dig ok_W_checkField (by decide) rfl t3 (x_checkField hL hno rp rq) rfl se_W_checkField rfl rfl rfl rfl ⟨rfl, rfl, rfl⟩
theorem x_dig2 {x y p q z : Int} (hL : LdOK w h n H A V) (hx : 0 ≤ x ∧ x < w) (hy : 0 ≤ y ∧ y < h) (hp : 0 ≤ p ∧ p < w) (hq : 0 ≤ q ∧ q < h) (hno : ¬ (0 ≤ z ∧ z ≤ 999)) (rz : -2147483648 ≤ z ∧ z ≤ 2147483647) : mj_Cx m_W_dig [.ref (mj_NE + 0), .int (iI x), .int (iI y), .int (iI p), .int (iI q), .int (iI z)] (Wd xs L A V Y) "java/lang/IllegalArgumentException" (Wd xs L A V Y) 1 6 9 := by
  have hL2 := hL
  obtain ⟨h0, h1, hV, hnw, hw, hh, hN, hH⟩ := hL2
  have t1 := r_to (RC := 1) (RS := 6) (dd := 9) (g := (0, [.ref (mj_NE + 0), .int (iI x), .int (iI y), .int (iI p), .int (iI q), .int (iI z)], [], Wd xs L A V Y, 0, 0)) (g' := (3, [.ref (mj_NE + 0), .int (iI x), .int (iI y), .int (iI p), .int (iI q), .int (iI z)], [.int (iI y), .int (iI x), .ref (mj_NE + 0)], Wd xs L A V Y, 0, 0)) ok_W_dig 9999 [] rfl trivial
  have t2 := r_tr t1 (q_V ok_W_dig ok_W_checkField se_W_checkField (f_checkField hL hx hy) rfl rfl rfl rfl rfl ⟨rfl, rfl, rfl⟩)
  have t3 := r_tr t2 (r_to (g' := (10, [.ref (mj_NE + 0), .int (iI x), .int (iI y), .int (iI p), .int (iI q), .int (iI z)], [.int (iI q), .int (iI p), .ref (mj_NE + 0)], Wd xs L A V Y, 0, 0)) ok_W_dig 9999 [] rfl trivial)
  have t4 := r_tr t3 (q_V ok_W_dig ok_W_checkField se_W_checkField (f_checkField hL hp hq) rfl rfl rfl rfl rfl ⟨rfl, rfl, rfl⟩)
  have t5 := r_tr t4 (r_to (g' := (19, [.ref (mj_NE + 0), .int (iI x), .int (iI y), .int (iI p), .int (iI q), .int (iI z)], [.int (iI (999)), .int (iI (0)), .int (iI z)], Wd xs L A V Y, 0, 0)) ok_W_dig 9999 [] rfl trivial)
  exact cx_S ok_W_dig ok_W_checkRange (by decide) rfl t5 (x_checkRange hno rz ⟨by omega, by omega, by omega, by omega⟩) rfl st_W_checkRange rfl rfl rfl ⟨rfl, rfl, rfl⟩
theorem x_wear0 {k : Int} (hno : ¬ (1 ≤ k ∧ k ≤ 50)) (rk : -2147483648 ≤ k ∧ k ≤ 2147483647) : mj_Cx m_W_wear [.ref (mj_NE + 0), .int (iI k)] (Wd xs L A V Y) "java/lang/IllegalArgumentException" (Wd xs L A V Y) 1 6 9 := by
  have t1 := r_to (RC := 1) (RS := 6) (dd := 9) (g := (0, [.ref (mj_NE + 0), .int (iI k)], [], Wd xs L A V Y, 0, 0)) (g' := (4, [.ref (mj_NE + 0), .int (iI k)], [.int (iI (50)), .int (iI (1)), .int (iI k)], Wd xs L A V Y, 0, 0)) ok_W_wear 9999 [] rfl trivial
  exact cx_S ok_W_wear ok_W_checkRange (by decide) rfl t1 (x_checkRange hno rk ⟨by omega, by omega, by omega, by omega⟩) rfl st_W_checkRange rfl rfl rfl ⟨rfl, rfl, rfl⟩
theorem x_setBrook0 {b : Int} (hno : ¬ (1 ≤ b ∧ b ≤ 100)) (rb : -2147483648 ≤ b ∧ b ≤ 2147483647) : mj_Cx m_W_setBrook [.ref (mj_NE + 0), .int (iI b)] (Wd xs L A V Y) "java/lang/IllegalArgumentException" (Wd xs L A V Y) 1 6 9 := by
  have t1 := r_to (RC := 1) (RS := 6) (dd := 9) (g := (0, [.ref (mj_NE + 0), .int (iI b), mj_u], [], Wd xs L A V Y, 0, 0)) (g' := (4, [.ref (mj_NE + 0), .int (iI b), mj_u], [.int (iI (100)), .int (iI (1)), .int (iI b)], Wd xs L A V Y, 0, 0)) ok_W_setBrook 9999 [] rfl trivial
  exact cx_S ok_W_setBrook ok_W_checkRange (by decide) rfl t1 (x_checkRange hno rb ⟨by omega, by omega, by omega, by omega⟩) rfl st_W_checkRange rfl rfl rfl ⟨rfl, rfl, rfl⟩
theorem x_map0 {k : Int} (hno : ¬ (0 ≤ k ∧ k ≤ 4)) (rk : -2147483648 ≤ k ∧ k ≤ 2147483647) : mj_Cx m_W_map [.ref (mj_NE + 0), .int (iI k)] (Wd xs L A V Y) "java/lang/IllegalArgumentException" (Wd xs L A V Y) 1 6 9 := by
  have t1 := r_to (RC := 1) (RS := 6) (dd := 9) (g := (0, [.ref (mj_NE + 0), .int (iI k)], [], Wd xs L A V Y, 0, 0)) (g' := (3, [.ref (mj_NE + 0), .int (iI k)], [.int (iI (4)), .int (iI (0)), .int (iI k)], Wd xs L A V Y, 0, 0)) ok_W_map 9999 [] rfl trivial
  exact cx_S ok_W_map ok_W_checkRange (by decide) rfl t1 (x_checkRange hno rk ⟨by omega, by omega, by omega, by omega⟩) rfl st_W_checkRange rfl rfl rfl ⟨rfl, rfl, rfl⟩
theorem x_height0 {x y : Int} (hL : LdOK w h n H A V) (hno : ¬ ((0 ≤ (x : Int) ∧ (x : Int) < w) ∧ 0 ≤ y ∧ y < h)) (rx : -2147483648 ≤ x ∧ x ≤ 2147483647) (ry : -2147483648 ≤ y ∧ y ≤ 2147483647) : mj_Cx m_W_height [.ref (mj_NE + 0), .int (iI x), .int (iI y)] (Wd xs L A V Y) "java/lang/IndexOutOfBoundsException" (Wd xs L A V Y) 1 6 9 := by
  have hL2 := hL
  obtain ⟨h0, h1, hV, hnw, hw, hh, hN, hH⟩ := hL2
  have t1 := r_to (RC := 1) (RS := 6) (dd := 9) (g := (0, [.ref (mj_NE + 0), .int (iI x), .int (iI y)], [], Wd xs L A V Y, 0, 0)) (g' := (3, [.ref (mj_NE + 0), .int (iI x), .int (iI y)], [.int (iI y), .int (iI x), .ref (mj_NE + 0)], Wd xs L A V Y, 0, 0)) ok_W_height 9999 [] rfl trivial
  exact cx_V ok_W_height ok_W_checkField (by decide) rfl t1 (x_checkField hL hno rx ry) rfl se_W_checkField rfl rfl rfl rfl ⟨rfl, rfl, rfl⟩
theorem x_water0 {x y k : Int} (hL : LdOK w h n H A V) (hno : ¬ ((0 ≤ (x : Int) ∧ (x : Int) < w) ∧ 0 ≤ y ∧ y < h)) (rx : -2147483648 ≤ x ∧ x ≤ 2147483647) (ry : -2147483648 ≤ y ∧ y ≤ 2147483647) : mj_Cx m_W_water [.ref (mj_NE + 0), .int (iI x), .int (iI y), .int (iI k)] (Wd xs L A V Y) "java/lang/IndexOutOfBoundsException" (Wd xs L A V Y) 1 6 9 := by
  have hL2 := hL
  obtain ⟨h0, h1, hV, hnw, hw, hh, hN, hH⟩ := hL2
  have t1 := r_to (RC := 1) (RS := 6) (dd := 9) (g := (0, [.ref (mj_NE + 0), .int (iI x), .int (iI y), .int (iI k)], [], Wd xs L A V Y, 0, 0)) (g' := (3, [.ref (mj_NE + 0), .int (iI x), .int (iI y), .int (iI k)], [.int (iI y), .int (iI x), .ref (mj_NE + 0)], Wd xs L A V Y, 0, 0)) ok_W_water 9999 [] rfl trivial
  exact cx_V ok_W_water ok_W_checkField (by decide) rfl t1 (x_checkField hL hno rx ry) rfl se_W_checkField rfl rfl rfl rfl ⟨rfl, rfl, rfl⟩
theorem x_water1 {x y k : Int} (hL : LdOK w h n H A V) (hx : 0 ≤ x ∧ x < w) (hy : 0 ≤ y ∧ y < h) (hno : ¬ (0 ≤ k ∧ k ≤ 4)) (rk : -2147483648 ≤ k ∧ k ≤ 2147483647) : mj_Cx m_W_water [.ref (mj_NE + 0), .int (iI x), .int (iI y), .int (iI k)] (Wd xs L A V Y) "java/lang/IllegalArgumentException" (Wd xs L A V Y) 1 6 9 := by
  have hL2 := hL
  obtain ⟨h0, h1, hV, hnw, hw, hh, hN, hH⟩ := hL2
  have t1 := r_to (RC := 1) (RS := 6) (dd := 9) (g := (0, [.ref (mj_NE + 0), .int (iI x), .int (iI y), .int (iI k)], [], Wd xs L A V Y, 0, 0)) (g' := (3, [.ref (mj_NE + 0), .int (iI x), .int (iI y), .int (iI k)], [.int (iI y), .int (iI x), .ref (mj_NE + 0)], Wd xs L A V Y, 0, 0)) ok_W_water 9999 [] rfl trivial
  have t2 := r_tr t1 (q_V ok_W_water ok_W_checkField se_W_checkField (f_checkField hL hx hy) rfl rfl rfl rfl rfl ⟨rfl, rfl, rfl⟩)
  have t3 := r_tr t2 (r_to (g' := (9, [.ref (mj_NE + 0), .int (iI x), .int (iI y), .int (iI k)], [.int (iI (4)), .int (iI (0)), .int (iI k)], Wd xs L A V Y, 0, 0)) ok_W_water 9999 [] rfl trivial)
  exact cx_S ok_W_water ok_W_checkRange (by decide) rfl t3 (x_checkRange hno rk ⟨by omega, by omega, by omega, by omega⟩) rfl st_W_checkRange rfl rfl rfl ⟨rfl, rfl, rfl⟩
theorem x_level0 {x y : Int} (hL : LdOK w h n H A V) (hno : ¬ ((0 ≤ (x : Int) ∧ (x : Int) < w) ∧ 0 ≤ y ∧ y < h)) (rx : -2147483648 ≤ x ∧ x ≤ 2147483647) (ry : -2147483648 ≤ y ∧ y ≤ 2147483647) : mj_Cx m_W_level [.ref (mj_NE + 0), .int (iI x), .int (iI y)] (Wd xs L A V Y) "java/lang/IndexOutOfBoundsException" (Wd xs L A V Y) 1 6 9 := by
  have hL2 := hL
  obtain ⟨h0, h1, hV, hnw, hw, hh, hN, hH⟩ := hL2
  have t1 := r_to (RC := 1) (RS := 6) (dd := 9) (g := (0, [.ref (mj_NE + 0), .int (iI x), .int (iI y)], [], Wd xs L A V Y, 0, 0)) (g' := (3, [.ref (mj_NE + 0), .int (iI x), .int (iI y)], [.int (iI y), .int (iI x), .ref (mj_NE + 0)], Wd xs L A V Y, 0, 0)) ok_W_level 9999 [] rfl trivial
  exact cx_V ok_W_level ok_W_checkField (by decide) rfl t1 (x_checkField hL hno rx ry) rfl se_W_checkField rfl rfl rfl rfl ⟨rfl, rfl, rfl⟩
theorem x_lake0 {x y k : Int} (hL : LdOK w h n H A V) (hno : ¬ ((0 ≤ (x : Int) ∧ (x : Int) < w) ∧ 0 ≤ y ∧ y < h)) (rx : -2147483648 ≤ x ∧ x ≤ 2147483647) (ry : -2147483648 ≤ y ∧ y ≤ 2147483647) : mj_Cx m_W_lake [.ref (mj_NE + 0), .int (iI x), .int (iI y), .int (iI k)] (Wd xs L A V Y) "java/lang/IndexOutOfBoundsException" (Wd xs L A V Y) 1 6 9 := by
  have hL2 := hL
  obtain ⟨h0, h1, hV, hnw, hw, hh, hN, hH⟩ := hL2
  have t1 := r_to (RC := 1) (RS := 6) (dd := 9) (g := (0, [.ref (mj_NE + 0), .int (iI x), .int (iI y), .int (iI k), mj_u], [], Wd xs L A V Y, 0, 0)) (g' := (3, [.ref (mj_NE + 0), .int (iI x), .int (iI y), .int (iI k), mj_u], [.int (iI y), .int (iI x), .ref (mj_NE + 0)], Wd xs L A V Y, 0, 0)) ok_W_lake 9999 [] rfl trivial
  exact cx_V ok_W_lake ok_W_checkField (by decide) rfl t1 (x_checkField hL hno rx ry) rfl se_W_checkField rfl rfl rfl rfl ⟨rfl, rfl, rfl⟩
theorem x_lake1 {x y k : Int} (hL : LdOK w h n H A V) (hx : 0 ≤ x ∧ x < w) (hy : 0 ≤ y ∧ y < h) (hno : ¬ (0 ≤ k ∧ k ≤ 1)) (rk : -2147483648 ≤ k ∧ k ≤ 2147483647) : mj_Cx m_W_lake [.ref (mj_NE + 0), .int (iI x), .int (iI y), .int (iI k)] (Wd xs L A V Y) "java/lang/IllegalArgumentException" (Wd xs L A V Y) 1 6 9 := by
  have hL2 := hL
  obtain ⟨h0, h1, hV, hnw, hw, hh, hN, hH⟩ := hL2
  have t1 := r_to (RC := 1) (RS := 6) (dd := 9) (g := (0, [.ref (mj_NE + 0), .int (iI x), .int (iI y), .int (iI k), mj_u], [], Wd xs L A V Y, 0, 0)) (g' := (3, [.ref (mj_NE + 0), .int (iI x), .int (iI y), .int (iI k), mj_u], [.int (iI y), .int (iI x), .ref (mj_NE + 0)], Wd xs L A V Y, 0, 0)) ok_W_lake 9999 [] rfl trivial
  have t2 := r_tr t1 (q_V ok_W_lake ok_W_checkField se_W_checkField (f_checkField hL hx hy) rfl rfl rfl rfl rfl ⟨rfl, rfl, rfl⟩)
  have t3 := r_tr t2 (r_to (g' := (9, [.ref (mj_NE + 0), .int (iI x), .int (iI y), .int (iI k), mj_u], [.int (iI (1)), .int (iI (0)), .int (iI k)], Wd xs L A V Y, 0, 0)) ok_W_lake 9999 [] rfl trivial)
  exact cx_S ok_W_lake ok_W_checkRange (by decide) rfl t3 (x_checkRange hno rk ⟨by omega, by omega, by omega, by omega⟩) rfl st_W_checkRange rfl rfl rfl ⟨rfl, rfl, rfl⟩
theorem x_contour0 {c k : Int} (hno : ¬ (0 ≤ c ∧ c ≤ 999)) (rc : -2147483648 ≤ c ∧ c ≤ 2147483647) : mj_Cx m_W_contour [.ref (mj_NE + 0), .int (iI c), .int (iI k)] (Wd xs L A V Y) "java/lang/IllegalArgumentException" (Wd xs L A V Y) 1 6 9 := by
  have t1 := r_to (RC := 1) (RS := 6) (dd := 9) (g := (0, [.ref (mj_NE + 0), .int (iI c), .int (iI k)], [], Wd xs L A V Y, 0, 0)) (g' := (5, [.ref (mj_NE + 0), .int (iI c), .int (iI k)], [.int (iI (999)), .int (iI (0)), .int (iI c)], Wd xs L A V Y, 0, 0)) ok_W_contour 9999 [] rfl trivial
  exact cx_S ok_W_contour ok_W_checkRange (by decide) rfl t1 (x_checkRange hno rc ⟨by omega, by omega, by omega, by omega⟩) rfl st_W_checkRange rfl rfl rfl ⟨rfl, rfl, rfl⟩
theorem x_contour1 {c k : Int} (hc : 0 ≤ c ∧ c ≤ 999) (hno : ¬ (0 ≤ k ∧ k ≤ 2)) (rk : -2147483648 ≤ k ∧ k ≤ 2147483647) : mj_Cx m_W_contour [.ref (mj_NE + 0), .int (iI c), .int (iI k)] (Wd xs L A V Y) "java/lang/IllegalArgumentException" (Wd xs L A V Y) 1 6 9 := by
  have t1 := r_to (RC := 1) (RS := 6) (dd := 9) (g := (0, [.ref (mj_NE + 0), .int (iI c), .int (iI k)], [], Wd xs L A V Y, 0, 0)) (g' := (5, [.ref (mj_NE + 0), .int (iI c), .int (iI k)], [.int (iI (999)), .int (iI (0)), .int (iI c)], Wd xs L A V Y, 0, 0)) ok_W_contour 9999 [] rfl trivial
  have t2 := r_tr t1 (q_S ok_W_contour ok_W_checkRange st_W_checkRange (f_checkRange hc ⟨by omega, by omega⟩) rfl rfl rfl rfl ⟨rfl, rfl, rfl⟩)
  have t3 := r_tr t2 (r_to (g' := (11, [.ref (mj_NE + 0), .int (iI c), .int (iI k)], [.int (iI (2)), .int (iI (0)), .int (iI k)], Wd xs L A V Y, 0, 0)) ok_W_contour 9999 [] rfl trivial)
  exact cx_S ok_W_contour ok_W_checkRange (by decide) rfl t3 (x_checkRange hno rk ⟨by omega, by omega, by omega, by omega⟩) rfl st_W_checkRange rfl rfl rfl ⟨rfl, rfl, rfl⟩
theorem x_sees0 {x y u p q : Int} (hL : LdOK w h n H A V) (hno : ¬ ((0 ≤ (x : Int) ∧ (x : Int) < w) ∧ 0 ≤ y ∧ y < h)) (rx : -2147483648 ≤ x ∧ x ≤ 2147483647) (ry : -2147483648 ≤ y ∧ y ≤ 2147483647) : mj_Cx m_W_sees [.ref (mj_NE + 0), .int (iI x), .int (iI y), .int (iI u), .int (iI p), .int (iI q)] (Wd xs L A V Y) "java/lang/IndexOutOfBoundsException" (Wd xs L A V Y) 1 6 9 := by
  have hL2 := hL
  obtain ⟨h0, h1, hV, hnw, hw, hh, hN, hH⟩ := hL2
  have t1 := r_to (RC := 1) (RS := 6) (dd := 9) (g := (0, [.ref (mj_NE + 0), .int (iI x), .int (iI y), .int (iI u), .int (iI p), .int (iI q)], [], Wd xs L A V Y, 0, 0)) (g' := (3, [.ref (mj_NE + 0), .int (iI x), .int (iI y), .int (iI u), .int (iI p), .int (iI q)], [.int (iI y), .int (iI x), .ref (mj_NE + 0)], Wd xs L A V Y, 0, 0)) ok_W_sees 9999 [] rfl trivial
  exact cx_V ok_W_sees ok_W_checkField (by decide) rfl t1 (x_checkField hL hno rx ry) rfl se_W_checkField rfl rfl rfl rfl ⟨rfl, rfl, rfl⟩
theorem x_sees1 {x y u p q : Int} (hL : LdOK w h n H A V) (hx : 0 ≤ x ∧ x < w) (hy : 0 ≤ y ∧ y < h) (hno : ¬ ((0 ≤ (p : Int) ∧ (p : Int) < w) ∧ 0 ≤ q ∧ q < h)) (rp : -2147483648 ≤ p ∧ p ≤ 2147483647) (rq : -2147483648 ≤ q ∧ q ≤ 2147483647) : mj_Cx m_W_sees [.ref (mj_NE + 0), .int (iI x), .int (iI y), .int (iI u), .int (iI p), .int (iI q)] (Wd xs L A V Y) "java/lang/IndexOutOfBoundsException" (Wd xs L A V Y) 1 6 9 := by
  have hL2 := hL
  obtain ⟨h0, h1, hV, hnw, hw, hh, hN, hH⟩ := hL2
  have t1 := r_to (RC := 1) (RS := 6) (dd := 9) (g := (0, [.ref (mj_NE + 0), .int (iI x), .int (iI y), .int (iI u), .int (iI p), .int (iI q)], [], Wd xs L A V Y, 0, 0)) (g' := (3, [.ref (mj_NE + 0), .int (iI x), .int (iI y), .int (iI u), .int (iI p), .int (iI q)], [.int (iI y), .int (iI x), .ref (mj_NE + 0)], Wd xs L A V Y, 0, 0)) ok_W_sees 9999 [] rfl trivial
  have t2 := r_tr t1 (q_V ok_W_sees ok_W_checkField se_W_checkField (f_checkField hL hx hy) rfl rfl rfl rfl rfl ⟨rfl, rfl, rfl⟩)
  have t3 := r_tr t2 (r_to (g' := (11, [.ref (mj_NE + 0), .int (iI x), .int (iI y), .int (iI u), .int (iI p), .int (iI q)], [.int (iI q), .int (iI p), .ref (mj_NE + 0)], Wd xs L A V Y, 0, 0)) ok_W_sees 9999 [] rfl trivial)
  exact cx_V ok_W_sees ok_W_checkField (by decide) rfl t3 (x_checkField hL hno rp rq) rfl se_W_checkField rfl rfl rfl rfl ⟨rfl, rfl, rfl⟩
theorem x_sees2 {x y u p q : Int} (hL : LdOK w h n H A V) (hx : 0 ≤ x ∧ x < w) (hy : 0 ≤ y ∧ y < h) (hp : 0 ≤ p ∧ p < w) (hq : 0 ≤ q ∧ q < h) (hno : ¬ (0 ≤ u ∧ u ≤ 500)) (ru : -2147483648 ≤ u ∧ u ≤ 2147483647) : mj_Cx m_W_sees [.ref (mj_NE + 0), .int (iI x), .int (iI y), .int (iI u), .int (iI p), .int (iI q)] (Wd xs L A V Y) "java/lang/IllegalArgumentException" (Wd xs L A V Y) 1 6 9 := by
  have hL2 := hL
  obtain ⟨h0, h1, hV, hnw, hw, hh, hN, hH⟩ := hL2
  have t1 := r_to (RC := 1) (RS := 6) (dd := 9) (g := (0, [.ref (mj_NE + 0), .int (iI x), .int (iI y), .int (iI u), .int (iI p), .int (iI q)], [], Wd xs L A V Y, 0, 0)) (g' := (3, [.ref (mj_NE + 0), .int (iI x), .int (iI y), .int (iI u), .int (iI p), .int (iI q)], [.int (iI y), .int (iI x), .ref (mj_NE + 0)], Wd xs L A V Y, 0, 0)) ok_W_sees 9999 [] rfl trivial
  have t2 := r_tr t1 (q_V ok_W_sees ok_W_checkField se_W_checkField (f_checkField hL hx hy) rfl rfl rfl rfl rfl ⟨rfl, rfl, rfl⟩)
  have t3 := r_tr t2 (r_to (g' := (11, [.ref (mj_NE + 0), .int (iI x), .int (iI y), .int (iI u), .int (iI p), .int (iI q)], [.int (iI q), .int (iI p), .ref (mj_NE + 0)], Wd xs L A V Y, 0, 0)) ok_W_sees 9999 [] rfl trivial)
  have t4 := r_tr t3 (q_V ok_W_sees ok_W_checkField se_W_checkField (f_checkField hL hp hq) rfl rfl rfl rfl rfl ⟨rfl, rfl, rfl⟩)
  have t5 := r_tr t4 (r_to (g' := (19, [.ref (mj_NE + 0), .int (iI x), .int (iI y), .int (iI u), .int (iI p), .int (iI q)], [.int (iI (500)), .int (iI (0)), .int (iI u)], Wd xs L A V Y, 0, 0)) ok_W_sees 9999 [] rfl trivial)
  exact cx_S ok_W_sees ok_W_checkRange (by decide) rfl t5 (x_checkRange hno ru ⟨by omega, by omega, by omega, by omega⟩) rfl st_W_checkRange rfl rfl rfl ⟨rfl, rfl, rfl⟩
theorem x_seen0 {x y u : Int} (hL : LdOK w h n H A V) (hno : ¬ ((0 ≤ (x : Int) ∧ (x : Int) < w) ∧ 0 ≤ y ∧ y < h)) (rx : -2147483648 ≤ x ∧ x ≤ 2147483647) (ry : -2147483648 ≤ y ∧ y ≤ 2147483647) : mj_Cx m_W_seen [.ref (mj_NE + 0), .int (iI x), .int (iI y), .int (iI u)] (Wd xs L A V Y) "java/lang/IndexOutOfBoundsException" (Wd xs L A V Y) 1 6 9 := by
  have hL2 := hL
  obtain ⟨h0, h1, hV, hnw, hw, hh, hN, hH⟩ := hL2
  have t1 := r_to (RC := 1) (RS := 6) (dd := 9) (g := (0, [.ref (mj_NE + 0), .int (iI x), .int (iI y), .int (iI u)], [], Wd xs L A V Y, 0, 0)) (g' := (3, [.ref (mj_NE + 0), .int (iI x), .int (iI y), .int (iI u)], [.int (iI y), .int (iI x), .ref (mj_NE + 0)], Wd xs L A V Y, 0, 0)) ok_W_seen 9999 [] rfl trivial
  exact cx_V ok_W_seen ok_W_checkField (by decide) rfl t1 (x_checkField hL hno rx ry) rfl se_W_checkField rfl rfl rfl rfl ⟨rfl, rfl, rfl⟩
theorem x_seen1 {x y u : Int} (hL : LdOK w h n H A V) (hx : 0 ≤ x ∧ x < w) (hy : 0 ≤ y ∧ y < h) (hno : ¬ (0 ≤ u ∧ u ≤ 500)) (ru : -2147483648 ≤ u ∧ u ≤ 2147483647) : mj_Cx m_W_seen [.ref (mj_NE + 0), .int (iI x), .int (iI y), .int (iI u)] (Wd xs L A V Y) "java/lang/IllegalArgumentException" (Wd xs L A V Y) 1 6 9 := by
  have hL2 := hL
  obtain ⟨h0, h1, hV, hnw, hw, hh, hN, hH⟩ := hL2
  have t1 := r_to (RC := 1) (RS := 6) (dd := 9) (g := (0, [.ref (mj_NE + 0), .int (iI x), .int (iI y), .int (iI u)], [], Wd xs L A V Y, 0, 0)) (g' := (3, [.ref (mj_NE + 0), .int (iI x), .int (iI y), .int (iI u)], [.int (iI y), .int (iI x), .ref (mj_NE + 0)], Wd xs L A V Y, 0, 0)) ok_W_seen 9999 [] rfl trivial
  have t2 := r_tr t1 (q_V ok_W_seen ok_W_checkField se_W_checkField (f_checkField hL hx hy) rfl rfl rfl rfl rfl ⟨rfl, rfl, rfl⟩)
  have t3 := r_tr t2 (r_to (g' := (11, [.ref (mj_NE + 0), .int (iI x), .int (iI y), .int (iI u)], [.int (iI (500)), .int (iI (0)), .int (iI u)], Wd xs L A V Y, 0, 0)) ok_W_seen 9999 [] rfl trivial)
  exact cx_S ok_W_seen ok_W_checkRange (by decide) rfl t3 (x_checkRange hno ru ⟨by omega, by omega, by omega, by omega⟩) rfl st_W_checkRange rfl rfl rfl ⟨rfl, rfl, rfl⟩
theorem x_takes0 {x y p q : Int} (hL : LdOK w h n H A V) (hno : ¬ ((0 ≤ (x : Int) ∧ (x : Int) < w) ∧ 0 ≤ y ∧ y < h)) (rx : -2147483648 ≤ x ∧ x ≤ 2147483647) (ry : -2147483648 ≤ y ∧ y ≤ 2147483647) : mj_Cx m_W_takes [.ref (mj_NE + 0), .int (iI x), .int (iI y), .int (iI p), .int (iI q)] (Wd xs L A V Y) "java/lang/IndexOutOfBoundsException" (Wd xs L A V Y) 1 6 9 := by
  have hL2 := hL
  obtain ⟨h0, h1, hV, hnw, hw, hh, hN, hH⟩ := hL2
  have t1 := r_to (RC := 1) (RS := 6) (dd := 9) (g := (0, [.ref (mj_NE + 0), .int (iI x), .int (iI y), .int (iI p), .int (iI q)], [], Wd xs L A V Y, 0, 0)) (g' := (3, [.ref (mj_NE + 0), .int (iI x), .int (iI y), .int (iI p), .int (iI q)], [.int (iI y), .int (iI x), .ref (mj_NE + 0)], Wd xs L A V Y, 0, 0)) ok_W_takes 9999 [] rfl trivial
  exact cx_V ok_W_takes ok_W_checkField (by decide) rfl t1 (x_checkField hL hno rx ry) rfl se_W_checkField rfl rfl rfl rfl ⟨rfl, rfl, rfl⟩
theorem x_takes1 {x y p q : Int} (hL : LdOK w h n H A V) (hx : 0 ≤ x ∧ x < w) (hy : 0 ≤ y ∧ y < h) (hno : ¬ ((0 ≤ (p : Int) ∧ (p : Int) < w) ∧ 0 ≤ q ∧ q < h)) (rp : -2147483648 ≤ p ∧ p ≤ 2147483647) (rq : -2147483648 ≤ q ∧ q ≤ 2147483647) : mj_Cx m_W_takes [.ref (mj_NE + 0), .int (iI x), .int (iI y), .int (iI p), .int (iI q)] (Wd xs L A V Y) "java/lang/IndexOutOfBoundsException" (Wd xs L A V Y) 1 6 9 := by
  have hL2 := hL
  obtain ⟨h0, h1, hV, hnw, hw, hh, hN, hH⟩ := hL2
  have t1 := r_to (RC := 1) (RS := 6) (dd := 9) (g := (0, [.ref (mj_NE + 0), .int (iI x), .int (iI y), .int (iI p), .int (iI q)], [], Wd xs L A V Y, 0, 0)) (g' := (3, [.ref (mj_NE + 0), .int (iI x), .int (iI y), .int (iI p), .int (iI q)], [.int (iI y), .int (iI x), .ref (mj_NE + 0)], Wd xs L A V Y, 0, 0)) ok_W_takes 9999 [] rfl trivial
  have t2 := r_tr t1 (q_V ok_W_takes ok_W_checkField se_W_checkField (f_checkField hL hx hy) rfl rfl rfl rfl rfl ⟨rfl, rfl, rfl⟩)
  have t3 := r_tr t2 (r_to (g' := (10, [.ref (mj_NE + 0), .int (iI x), .int (iI y), .int (iI p), .int (iI q)], [.int (iI q), .int (iI p), .ref (mj_NE + 0)], Wd xs L A V Y, 0, 0)) ok_W_takes 9999 [] rfl trivial)
  exact cx_V ok_W_takes ok_W_checkField (by decide) rfl t3 (x_checkField hL hno rp rq) rfl se_W_checkField rfl rfl rfl rfl ⟨rfl, rfl, rfl⟩
theorem x_way0 {x y p q b : Int} (hL : LdOK w h n H A V) (hno : ¬ ((0 ≤ (x : Int) ∧ (x : Int) < w) ∧ 0 ≤ y ∧ y < h)) (rx : -2147483648 ≤ x ∧ x ≤ 2147483647) (ry : -2147483648 ≤ y ∧ y ≤ 2147483647) : mj_Cx m_W_way [.ref (mj_NE + 0), .int (iI x), .int (iI y), .int (iI p), .int (iI q), .int (iI b)] (Wd xs L A V Y) "java/lang/IndexOutOfBoundsException" (Wd xs L A V Y) 1 6 9 := by
  have hL2 := hL
  obtain ⟨h0, h1, hV, hnw, hw, hh, hN, hH⟩ := hL2
  have t1 := r_to (RC := 1) (RS := 6) (dd := 9) (g := (0, [.ref (mj_NE + 0), .int (iI x), .int (iI y), .int (iI p), .int (iI q), .int (iI b), mj_u], [], Wd xs L A V Y, 0, 0)) (g' := (3, [.ref (mj_NE + 0), .int (iI x), .int (iI y), .int (iI p), .int (iI q), .int (iI b), mj_u], [.int (iI y), .int (iI x), .ref (mj_NE + 0)], Wd xs L A V Y, 0, 0)) ok_W_way 9999 [] rfl trivial
  exact cx_V ok_W_way ok_W_checkField (by decide) rfl t1 (x_checkField hL hno rx ry) rfl se_W_checkField rfl rfl rfl rfl ⟨rfl, rfl, rfl⟩
theorem x_way1 {x y p q b : Int} (hL : LdOK w h n H A V) (hx : 0 ≤ x ∧ x < w) (hy : 0 ≤ y ∧ y < h) (hno : ¬ ((0 ≤ (p : Int) ∧ (p : Int) < w) ∧ 0 ≤ q ∧ q < h)) (rp : -2147483648 ≤ p ∧ p ≤ 2147483647) (rq : -2147483648 ≤ q ∧ q ≤ 2147483647) : mj_Cx m_W_way [.ref (mj_NE + 0), .int (iI x), .int (iI y), .int (iI p), .int (iI q), .int (iI b)] (Wd xs L A V Y) "java/lang/IndexOutOfBoundsException" (Wd xs L A V Y) 1 6 9 := by
  have hL2 := hL
  obtain ⟨h0, h1, hV, hnw, hw, hh, hN, hH⟩ := hL2
  have t1 := r_to (RC := 1) (RS := 6) (dd := 9) (g := (0, [.ref (mj_NE + 0), .int (iI x), .int (iI y), .int (iI p), .int (iI q), .int (iI b), mj_u], [], Wd xs L A V Y, 0, 0)) (g' := (3, [.ref (mj_NE + 0), .int (iI x), .int (iI y), .int (iI p), .int (iI q), .int (iI b), mj_u], [.int (iI y), .int (iI x), .ref (mj_NE + 0)], Wd xs L A V Y, 0, 0)) ok_W_way 9999 [] rfl trivial
  have t2 := r_tr t1 (q_V ok_W_way ok_W_checkField se_W_checkField (f_checkField hL hx hy) rfl rfl rfl rfl rfl ⟨rfl, rfl, rfl⟩)
  have t3 := r_tr t2 (r_to (g' := (10, [.ref (mj_NE + 0), .int (iI x), .int (iI y), .int (iI p), .int (iI q), .int (iI b), mj_u], [.int (iI q), .int (iI p), .ref (mj_NE + 0)], Wd xs L A V Y, 0, 0)) ok_W_way 9999 [] rfl trivial)
  exact cx_V ok_W_way ok_W_checkField (by decide) rfl t3 (x_checkField hL hno rp rq) rfl se_W_checkField rfl rfl rfl rfl ⟨rfl, rfl, rfl⟩
theorem x_way2 {x y p q b : Int} (hL : LdOK w h n H A V) (hx : 0 ≤ x ∧ x < w) (hy : 0 ≤ y ∧ y < h) (hp : 0 ≤ p ∧ p < w) (hq : 0 ≤ q ∧ q < h) (hb : b < 0) (rb : -2147483648 ≤ b ∧ b ≤ 2147483647) : mj_Cx m_W_way [.ref (mj_NE + 0), .int (iI x), .int (iI y), .int (iI p), .int (iI q), .int (iI b)] (Wd xs L A V Y) "java/lang/IllegalArgumentException" (Wd xs L A V Y) 1 6 8 := by
  have hL2 := hL
  obtain ⟨h0, h1, hV, hnw, hw, hh, hN, hH⟩ := hL2
  have t1 := r_to (RC := 1) (RS := 6) (dd := 8) (g := (0, [.ref (mj_NE + 0), .int (iI x), .int (iI y), .int (iI p), .int (iI q), .int (iI b), mj_u], [], Wd xs L A V Y, 0, 0)) (g' := (3, [.ref (mj_NE + 0), .int (iI x), .int (iI y), .int (iI p), .int (iI q), .int (iI b), mj_u], [.int (iI y), .int (iI x), .ref (mj_NE + 0)], Wd xs L A V Y, 0, 0)) ok_W_way 9999 [] rfl trivial
  have t2 := r_tr t1 (q_V ok_W_way ok_W_checkField se_W_checkField (f_checkField hL hx hy) rfl rfl rfl rfl rfl ⟨rfl, rfl, rfl⟩)
  have t3 := r_tr t2 (r_to (g' := (10, [.ref (mj_NE + 0), .int (iI x), .int (iI y), .int (iI p), .int (iI q), .int (iI b), mj_u], [.int (iI q), .int (iI p), .ref (mj_NE + 0)], Wd xs L A V Y, 0, 0)) ok_W_way 9999 [] rfl trivial)
  have t4 := r_tr t3 (q_V ok_W_way ok_W_checkField se_W_checkField (f_checkField hL hp hq) rfl rfl rfl rfl rfl ⟨rfl, rfl, rfl⟩)
  have t5 := r_tr t4 (r_to (g' := (18, [.ref (mj_NE + 0), .int (iI x), .int (iI y), .int (iI p), .int (iI q), .int (iI b), mj_u], [], Wd xs L A V Y, 0, 0)) ok_W_way 18 [false] rfl ⟨by show ¬ (iI 0 ≤ iI b); rw [iI_le ⟨by omega, by omega⟩ rb]; omega, trivial⟩)
  exact cx_T ok_W_way (by decide) rfl rfl (t5) (E := "java/lang/IllegalArgumentException") (text := "back is below 0") (ik := 169) (is := 171) (ic := 173) (pk := 572) (pi := 60) (ps := mj_psA) (by decide) (by decide +kernel) (by decide +kernel) (by decide) mj_atA ⟨by decide +kernel, by decide +kernel, by decide +kernel, by decide +kernel, by decide +kernel⟩ rfl
theorem x_volumeWith0 {x y z : Int} (hL : LdOK w h n H A V) (hno : ¬ ((0 ≤ (x : Int) ∧ (x : Int) < w) ∧ 0 ≤ y ∧ y < h)) (rx : -2147483648 ≤ x ∧ x ≤ 2147483647) (ry : -2147483648 ≤ y ∧ y ≤ 2147483647) : mj_Cx m_W_volumeWith [.ref (mj_NE + 0), .int (iI x), .int (iI y), .int (iI z)] (Wd xs L A V Y) "java/lang/IndexOutOfBoundsException" (Wd xs L A V Y) 1 6 9 := by
  have hL2 := hL
  obtain ⟨h0, h1, hV, hnw, hw, hh, hN, hH⟩ := hL2
  have t1 := r_to (RC := 1) (RS := 6) (dd := 9) (g := (0, [.ref (mj_NE + 0), .int (iI x), .int (iI y), .int (iI z), mj_u, mj_u, mj_u], [], Wd xs L A V Y, 0, 0)) (g' := (3, [.ref (mj_NE + 0), .int (iI x), .int (iI y), .int (iI z), mj_u, mj_u, mj_u], [.int (iI y), .int (iI x), .ref (mj_NE + 0)], Wd xs L A V Y, 0, 0)) ok_W_volumeWith 9999 [] rfl trivial
  exact cx_V ok_W_volumeWith ok_W_checkField (by decide) rfl t1 (x_checkField hL hno rx ry) rfl se_W_checkField rfl rfl rfl rfl ⟨rfl, rfl, rfl⟩
theorem x_volumeWith1 {x y z : Int} (hL : LdOK w h n H A V) (hx : 0 ≤ x ∧ x < w) (hy : 0 ≤ y ∧ y < h) (hno : ¬ (0 ≤ z ∧ z ≤ 999)) (rz : -2147483648 ≤ z ∧ z ≤ 2147483647) : mj_Cx m_W_volumeWith [.ref (mj_NE + 0), .int (iI x), .int (iI y), .int (iI z)] (Wd xs L A V Y) "java/lang/IllegalArgumentException" (Wd xs L A V Y) 1 6 9 := by
  have hL2 := hL
  obtain ⟨h0, h1, hV, hnw, hw, hh, hN, hH⟩ := hL2
  have t1 := r_to (RC := 1) (RS := 6) (dd := 9) (g := (0, [.ref (mj_NE + 0), .int (iI x), .int (iI y), .int (iI z), mj_u, mj_u, mj_u], [], Wd xs L A V Y, 0, 0)) (g' := (3, [.ref (mj_NE + 0), .int (iI x), .int (iI y), .int (iI z), mj_u, mj_u, mj_u], [.int (iI y), .int (iI x), .ref (mj_NE + 0)], Wd xs L A V Y, 0, 0)) ok_W_volumeWith 9999 [] rfl trivial
  have t2 := r_tr t1 (q_V ok_W_volumeWith ok_W_checkField se_W_checkField (f_checkField hL hx hy) rfl rfl rfl rfl rfl ⟨rfl, rfl, rfl⟩)
  have t3 := r_tr t2 (r_to (g' := (11, [.ref (mj_NE + 0), .int (iI x), .int (iI y), .int (iI z), mj_u, mj_u, mj_u], [.int (iI (999)), .int (iI (0)), .int (iI z)], Wd xs L A V Y, 0, 0)) ok_W_volumeWith 9999 [] rfl trivial)
  exact cx_S ok_W_volumeWith ok_W_checkRange (by decide) rfl t3 (x_checkRange hno rz ⟨by omega, by omega, by omega, by omega⟩) rfl st_W_checkRange rfl rfl rfl ⟨rfl, rfl, rfl⟩
theorem x_endsWith0 {x y z : Int} (hL : LdOK w h n H A V) (hno : ¬ ((0 ≤ (x : Int) ∧ (x : Int) < w) ∧ 0 ≤ y ∧ y < h)) (rx : -2147483648 ≤ x ∧ x ≤ 2147483647) (ry : -2147483648 ≤ y ∧ y ≤ 2147483647) : mj_Cx m_W_endsWith [.ref (mj_NE + 0), .int (iI x), .int (iI y), .int (iI z)] (Wd xs L A V Y) "java/lang/IndexOutOfBoundsException" (Wd xs L A V Y) 1 6 9 := by
  have hL2 := hL
  obtain ⟨h0, h1, hV, hnw, hw, hh, hN, hH⟩ := hL2
  have t1 := r_to (RC := 1) (RS := 6) (dd := 9) (g := (0, [.ref (mj_NE + 0), .int (iI x), .int (iI y), .int (iI z), mj_u, mj_u, mj_u, mj_u], [], Wd xs L A V Y, 0, 0)) (g' := (3, [.ref (mj_NE + 0), .int (iI x), .int (iI y), .int (iI z), mj_u, mj_u, mj_u, mj_u], [.int (iI y), .int (iI x), .ref (mj_NE + 0)], Wd xs L A V Y, 0, 0)) ok_W_endsWith 9999 [] rfl trivial
  exact cx_V ok_W_endsWith ok_W_checkField (by decide) rfl t1 (x_checkField hL hno rx ry) rfl se_W_checkField rfl rfl rfl rfl ⟨rfl, rfl, rfl⟩
theorem x_endsWith1 {x y z : Int} (hL : LdOK w h n H A V) (hx : 0 ≤ x ∧ x < w) (hy : 0 ≤ y ∧ y < h) (hno : ¬ (0 ≤ z ∧ z ≤ 999)) (rz : -2147483648 ≤ z ∧ z ≤ 2147483647) : mj_Cx m_W_endsWith [.ref (mj_NE + 0), .int (iI x), .int (iI y), .int (iI z)] (Wd xs L A V Y) "java/lang/IllegalArgumentException" (Wd xs L A V Y) 1 6 9 := by
  have hL2 := hL
  obtain ⟨h0, h1, hV, hnw, hw, hh, hN, hH⟩ := hL2
  have t1 := r_to (RC := 1) (RS := 6) (dd := 9) (g := (0, [.ref (mj_NE + 0), .int (iI x), .int (iI y), .int (iI z), mj_u, mj_u, mj_u, mj_u], [], Wd xs L A V Y, 0, 0)) (g' := (3, [.ref (mj_NE + 0), .int (iI x), .int (iI y), .int (iI z), mj_u, mj_u, mj_u, mj_u], [.int (iI y), .int (iI x), .ref (mj_NE + 0)], Wd xs L A V Y, 0, 0)) ok_W_endsWith 9999 [] rfl trivial
  have t2 := r_tr t1 (q_V ok_W_endsWith ok_W_checkField se_W_checkField (f_checkField hL hx hy) rfl rfl rfl rfl rfl ⟨rfl, rfl, rfl⟩)
  have t3 := r_tr t2 (r_to (g' := (11, [.ref (mj_NE + 0), .int (iI x), .int (iI y), .int (iI z), mj_u, mj_u, mj_u, mj_u], [.int (iI (999)), .int (iI (0)), .int (iI z)], Wd xs L A V Y, 0, 0)) ok_W_endsWith 9999 [] rfl trivial)
  exact cx_S ok_W_endsWith ok_W_checkRange (by decide) rfl t3 (x_checkRange hno rz ⟨by omega, by omega, by omega, by omega⟩) rfl st_W_checkRange rfl rfl rfl ⟨rfl, rfl, rfl⟩
theorem x_lookout0 {y u : Int} (hL : LdOK w h n H A V) (hno : ¬ ((0 ≤ (0 : Int) ∧ (0 : Int) < w) ∧ 0 ≤ y ∧ y < h)) (ry : -2147483648 ≤ y ∧ y ≤ 2147483647) : mj_Cx m_W_lookout [.ref (mj_NE + 0), .int (iI y), .int (iI u)] (Wd xs L A V Y) "java/lang/IndexOutOfBoundsException" (Wd xs L A V Y) 1 6 9 := by
  have hL2 := hL
  obtain ⟨h0, h1, hV, hnw, hw, hh, hN, hH⟩ := hL2
  have t1 := r_to (RC := 1) (RS := 6) (dd := 9) (g := (0, [.ref (mj_NE + 0), .int (iI y), .int (iI u), mj_u, mj_u, mj_u, mj_u], [], Wd xs L A V Y, 0, 0)) (g' := (3, [.ref (mj_NE + 0), .int (iI y), .int (iI u), mj_u, mj_u, mj_u, mj_u], [.int (iI y), .int (iI (0)), .ref (mj_NE + 0)], Wd xs L A V Y, 0, 0)) ok_W_lookout 9999 [] rfl trivial
  exact cx_V ok_W_lookout ok_W_checkField (by decide) rfl t1 (x_checkField hL hno ⟨by omega, by omega⟩ ry) rfl se_W_checkField rfl rfl rfl rfl ⟨rfl, rfl, rfl⟩
theorem x_lookout1 {y u : Int} (hL : LdOK w h n H A V) (hy : 0 ≤ y ∧ y < h) (hno : ¬ (0 ≤ u ∧ u ≤ 500)) (ru : -2147483648 ≤ u ∧ u ≤ 2147483647) : mj_Cx m_W_lookout [.ref (mj_NE + 0), .int (iI y), .int (iI u)] (Wd xs L A V Y) "java/lang/IllegalArgumentException" (Wd xs L A V Y) 1 6 9 := by
  have hL2 := hL
  obtain ⟨h0, h1, hV, hnw, hw, hh, hN, hH⟩ := hL2
  have t1 := r_to (RC := 1) (RS := 6) (dd := 9) (g := (0, [.ref (mj_NE + 0), .int (iI y), .int (iI u), mj_u, mj_u, mj_u, mj_u], [], Wd xs L A V Y, 0, 0)) (g' := (3, [.ref (mj_NE + 0), .int (iI y), .int (iI u), mj_u, mj_u, mj_u, mj_u], [.int (iI y), .int (iI (0)), .ref (mj_NE + 0)], Wd xs L A V Y, 0, 0)) ok_W_lookout 9999 [] rfl trivial
  have t2 := r_tr t1 (q_V ok_W_lookout ok_W_checkField se_W_checkField (f_checkField hL ⟨by omega, by omega⟩ hy) rfl rfl rfl rfl rfl ⟨rfl, rfl, rfl⟩)
  have t3 := r_tr t2 (r_to (g' := (11, [.ref (mj_NE + 0), .int (iI y), .int (iI u), mj_u, mj_u, mj_u, mj_u], [.int (iI (500)), .int (iI (0)), .int (iI u)], Wd xs L A V Y, 0, 0)) ok_W_lookout 9999 [] rfl trivial)
  exact cx_S ok_W_lookout ok_W_checkRange (by decide) rfl t3 (x_checkRange hno ru ⟨by omega, by omega, by omega, by omega⟩) rfl st_W_checkRange rfl rfl rfl ⟨rfl, rfl, rfl⟩
end REFUSE
