/-! calls with the stack as it stands -/
theorem q_V {M M' : mj_M} {RC RS dd : Nat} (hA : mj_okA M = true) (hA' : mj_okA M' = true) (hsel : lw_tbl[mM_p3 M']? = some (Cond.selects (mM_y M').cls (mM_y M') (mM_y M')) ∧ lw_tbl[mM_p2 M']? = some (Cond.instanceMethod (mM_y M'))) {pc q : Nat} {L As st rest : List Value} {h h' : mj_H} {cc cs mc ms d : Nat} {r : Option Value} (hC : mj_Ct M' (.ref q :: As) h r h' mc ms d) (hst : st = As.reverse ++ .ref q :: rest) (hi : mj_isV (mj_cd M pc) M' = true) (hn : As.length = mM_np M') (hrc : mj_rcv h q M' = true) (hw : Nat.ble ((rest.map fun v => v.category).sum) 8 = true) (hroom : Nat.ble (cc + mc) RC = true ∧ Nat.ble (cs + ms) RS = true ∧ Nat.blt d dd = true) : mj_Rc M RC RS dd (pc, L, st, h, cc, cs) (pc + 3, L, r.toList ++ rest, h', cc + mc, cs + ms) := fun _ hX k => g_callV hX hA hA' hC hi hsel hst hn hrc hw hroom k
theorem q_S {M M' : mj_M} {RC RS dd : Nat} (hA : mj_okA M = true) (hA' : mj_okA M' = true) (hsta : lw_tbl[mM_p2 M']? = some (Cond.static (mM_y M'))) {pc : Nat} {L As st rest : List Value} {h h' : mj_H} {cc cs mc ms d : Nat} {r : Option Value} (hC : mj_Ct M' As h r h' mc ms d) (hst : st = As.reverse ++ rest) (hi : mj_isS (mj_cd M pc) M' = true) (hn : As.length = mM_np M') (hw : Nat.ble ((rest.map fun v => v.category).sum) 8 = true) (hroom : Nat.ble (cc + mc) RC = true ∧ Nat.ble (cs + ms) RS = true ∧ Nat.blt d dd = true) : mj_Rc M RC RS dd (pc, L, st, h, cc, cs) (pc + 3, L, r.toList ++ rest, h', cc + mc, cs + ms) := fun _ hX k => g_callS hX hA hA' hC hi hsta hst hn hw hroom k
theorem q_I {M M' : mj_M} {RC RS dd : Nat} (hA : mj_okA M = true) (hA' : mj_okA M' = true) (hin : lw_tbl[mM_p2 M']? = some (Cond.instanceMethod (mM_y M')) ∧ mM_ret M' = none ∧ mj_ini M' = true) {pc q : Nat} {L As st rest : List Value} {h h' : mj_H} {cc cs mc ms d : Nat} (hC : mj_Ct M' (.ref q :: As) h none h' mc ms d) (hst : st = As.reverse ++ .ref q :: rest) (hi : mj_isI (mj_cd M pc) M' = true) (hn : As.length = mM_np M') (hw : Nat.ble ((rest.map fun v => v.category).sum) 8 = true) (hroom : Nat.ble (cc + mc) RC = true ∧ Nat.ble (cs + ms) RS = true ∧ Nat.blt d dd = true) : mj_Rc M RC RS dd (pc, L, st, h, cc, cs) (pc + 3, L, rest, h', cc + mc, cs + ms) := fun _ hX k => g_callI hX hA hA' hC hi hin.1 hin.2.1 hin.2.2 hst hn hw hroom k
/-! java.lang.Math -/
section MATH
variable {h : mj_H} {a b : Int}
theorem c_max (ha : -2147483648 ≤ a ∧ a ≤ 2147483647) (hb : -2147483648 ≤ b ∧ b ≤ 2147483647) : mj_Ct m_Math_max [.int (iI a), .int (iI b)] h (some (.int (iI (max a b)))) h 0 0 0 := by
  by_cases hc : a < b
  · rw [Int.max_eq_right (by omega)]
    exact ct_of ok_Math_max rfl (r_to ok_Math_max 9999 [true] rfl ⟨(iI_lt ha hb).mpr hc, trivial⟩) rfl rfl rfl rfl rfl
  · rw [Int.max_eq_left (by omega)]
    exact ct_of ok_Math_max rfl (r_to ok_Math_max 9999 [false] rfl ⟨fun q => hc ((iI_lt ha hb).mp q), trivial⟩) rfl rfl rfl rfl rfl
theorem c_min (ha : -2147483648 ≤ a ∧ a ≤ 2147483647) (hb : -2147483648 ≤ b ∧ b ≤ 2147483647) : mj_Ct m_Math_min [.int (iI a), .int (iI b)] h (some (.int (iI (min a b)))) h 0 0 0 := by
  by_cases hc : b < a
  · rw [Int.min_eq_right (by omega)]
    exact ct_of ok_Math_min rfl (r_to ok_Math_min 9999 [true] rfl ⟨(iI_lt hb ha).mpr hc, trivial⟩) rfl rfl rfl rfl rfl
  · rw [Int.min_eq_left (by omega)]
    exact ct_of ok_Math_min rfl (r_to ok_Math_min 9999 [false] rfl ⟨fun q => hc ((iI_lt hb ha).mp q), trivial⟩) rfl rfl rfl rfl rfl
theorem c_abs (ha : -2147483648 < a ∧ a ≤ 2147483647) : mj_Ct m_Math_abs [.int (iI a)] h (some (.int (iI (a.natAbs : Int)))) h 0 0 0 := by
  by_cases hc : 0 ≤ a
  · rw [show ((a.natAbs : Nat) : Int) = a by omega]
    exact ct_of ok_Math_abs rfl (r_to ok_Math_abs 9999 [true] rfl ⟨(iI_le (a := 0) ⟨by omega, by omega⟩ ⟨by omega, by omega⟩).mpr hc, trivial⟩) rfl rfl rfl rfl rfl
  · rw [show ((a.natAbs : Nat) : Int) = -a by omega, ← iI_neg]
    exact ct_of ok_Math_abs rfl (r_to ok_Math_abs 9999 [false] rfl ⟨fun q => hc ((iI_le (a := 0) ⟨by omega, by omega⟩ ⟨by omega, by omega⟩).mp q), trivial⟩) rfl rfl rfl rfl rfl
theorem iI_xor_neg (ha : -2147483648 ≤ a ∧ a ≤ 2147483647) (hb : 0 ≤ b ∧ b ≤ 2147483647) : (iI a ^^^ iI b < 0) ↔ a < 0 := by
  have key : ∀ x y : BitVec 32, y.msb = false → ((x ^^^ y).msb = x.msb) := fun x y hy => by rw [BitVec.msb_xor, hy, Bool.xor_false]
  have hm : ∀ z : Int32, z < 0 ↔ z.toBitVec.msb = true := fun z => by
    rw [Int32.lt_iff_toInt_lt, Int32.toInt_zero]
    rw [BitVec.msb_eq_toInt, decide_eq_true_eq]
    exact Iff.rfl
  have h1 : ¬ iI b < 0 := fun q => by
    rw [show (0 : Int32) = iI 0 from rfl, iI_lt ⟨by omega, by omega⟩ ⟨by omega, by omega⟩] at q
    omega
  have h2 : (iI b).toBitVec.msb = false := by
    cases hq : (iI b).toBitVec.msb with
    | false => rfl
    | true => exact absurd ((hm _).mpr hq) h1
  rw [hm, Int32.toBitVec_xor, key _ _ h2, ← hm, show (0 : Int32) = iI 0 from rfl, iI_lt ha ⟨by omega, by omega⟩]
theorem c_floorDiv (ha : -1000000 ≤ a ∧ a ≤ 1000000) (hb : 0 < b ∧ b ≤ 1000000) : mj_Ct m_Math_floorDiv [.int (iI a), .int (iI b)] h (some (.int (iI (a / b)))) h 0 0 0 := by
  have hb0 : ¬ iI b = 0 := fun q => by
    rw [show (0 : Int32) = iI 0 from rfl, iI_eq ⟨by omega, by omega⟩ ⟨by omega, by omega⟩] at q
    omega
  have hd : iI a / iI b = iI (a.tdiv b) := iI_div ⟨by omega, by omega⟩ ⟨by omega, by omega⟩
  have hx := iI_xor_neg (a := a) (b := b) ⟨by omega, by omega⟩ ⟨by omega, by omega⟩
  by_cases hc : 0 ≤ a
  · have e : a / b = a.tdiv b := (Int.tdiv_eq_ediv_of_nonneg hc).symm
    rw [e, ← hd]
    exact ct_of ok_Math_floorDiv rfl (r_to ok_Math_floorDiv 9999 [true] rfl ⟨hb0, Int32.not_lt.mp (fun q => by have := hx.mp q; omega), trivial⟩) rfl rfl rfl rfl rfl
  · have hn : ¬ (0 : Int32) ≤ iI a ^^^ iI b := fun q => Int32.not_le.mpr (hx.mpr (by omega)) q
    have hm := Int.mul_tdiv_add_tmod a b
    have hmm : a.tdiv b * b = a - a.tmod b := by rw [Int.mul_comm]; omega
    have hr1 : -b < a.tmod b ∧ a.tmod b ≤ 0 := by
      have h1 := Int.tmod_nonneg (a := -a) b (by omega)
      have h2 := Int.tmod_lt_of_pos (-a) hb.1
      rw [Int.neg_tmod] at h1 h2
      omega
    have hq : iI a / iI b * iI b = iI (a - a.tmod b) := by rw [hd, iI_mul, hmm]
    have he := Int.mul_ediv_add_emod a b
    have he1 := Int.emod_nonneg a (show b ≠ 0 by omega)
    have he2 := Int.emod_lt_of_pos a hb.1
    by_cases h0 : a.tmod b = 0
    · have e : a / b = a.tdiv b := by
        have h3 : b * a.tdiv b = b * (a / b) + a % b := by omega
        have h4 : b * (a.tdiv b - a / b) = a % b := by rw [Int.mul_sub]; omega
        have h5 : a.tdiv b - a / b = 0 := by
          rcases Int.lt_trichotomy (a.tdiv b - a / b) 0 with q | q | q
          · have := Int.mul_le_mul_of_nonneg_left (show a.tdiv b - a / b ≤ -1 by omega) (show 0 ≤ b by omega)
            omega
          · exact q
          · have := Int.mul_le_mul_of_nonneg_left (show 1 ≤ a.tdiv b - a / b by omega) (show 0 ≤ b by omega)
            omega
        omega
      rw [e, ← hd]
      exact ct_of ok_Math_floorDiv rfl (r_to ok_Math_floorDiv 9999 [false, true] rfl ⟨hb0, hn, by
        show iI a / iI b * iI b = iI a
        rw [hq, h0]
        simp, trivial⟩) rfl rfl rfl rfl rfl
    · have e : a / b = a.tdiv b - 1 := by
        have h4 : b * (a.tdiv b - a / b) = a % b - a.tmod b := by rw [Int.mul_sub]; omega
        have h5 : a.tdiv b - a / b = 1 := by
          rcases Int.lt_trichotomy (a.tdiv b - a / b) 1 with q | q | q
          · have := Int.mul_le_mul_of_nonneg_left (show a.tdiv b - a / b ≤ 0 by omega) (show 0 ≤ b by omega)
            omega
          · exact q
          · have := Int.mul_le_mul_of_nonneg_left (show 2 ≤ a.tdiv b - a / b by omega) (show 0 ≤ b by omega)
            omega
        omega
      rw [e, ← iI_sub, ← hd]
      exact ct_of ok_Math_floorDiv rfl (r_to ok_Math_floorDiv 9999 [false, false] rfl ⟨hb0, hn, fun q => by
        have q : iI a / iI b * iI b = iI a := q
        rw [hq, iI_eq ⟨by omega, by omega⟩ ⟨by omega, by omega⟩] at q
        omega, trivial⟩) rfl rfl rfl rfl rfl
end MATH
/-! Land: the small ones -/
section LAND1
variable {xs : Nat → Int32} {L : Nat} {A : Nat → Nat → Int32} {V : Nat → Int32} {Y : mj_H} {w h x y : Int}
theorem c_num (hw : V 0 = iI w) : mj_Ct m_Land_numberOf [.ref (mj_NE + 1), .int (iI x), .int (iI y)] (Wd xs L A V Y) (some (.int (iI (y * w + x)))) (Wd xs L A V Y) 0 0 0 := by
  rw [← iI_add, ← iI_mul, ← hw]
  exact c_numberOf
theorem c_has1 (hw : V 0 = iI w) (hh : V 1 = iI h) (h1 : 0 ≤ x ∧ x < w ∧ 0 ≤ y ∧ y < h) (h2 : w ≤ 1000 ∧ h ≤ 1000) : mj_Ct m_Land_has [.ref (mj_NE + 1), .int (iI x), .int (iI y)] (Wd xs L A V Y) (some (.int 1)) (Wd xs L A V Y) 0 0 0 :=
  ct_of ok_Land_has rfl (r_to ok_Land_has 9999 [false, false, false, false] rfl (by
    refine ⟨?_, ?_, ?_, ?_, trivial⟩ <;> simp (disch := omega) only [mj_c1, mj_c2, hw, hh, show (0 : Int32) = iI 0 from rfl, iI_lt, iI_le] <;> omega)) rfl rfl ⟨rfl, rfl⟩ rfl rfl
theorem c_has0 (hw : V 0 = iI w) (hh : V 1 = iI h) (h1 : ¬ (0 ≤ x ∧ x < w ∧ 0 ≤ y ∧ y < h)) (h2 : 0 ≤ w ∧ w ≤ 1000 ∧ 0 ≤ h ∧ h ≤ 1000) (h3 : -1000000 ≤ x ∧ x ≤ 1000000 ∧ -1000000 ≤ y ∧ y ≤ 1000000) : mj_Ct m_Land_has [.ref (mj_NE + 1), .int (iI x), .int (iI y)] (Wd xs L A V Y) (some (.int 0)) (Wd xs L A V Y) 0 0 0 := by
  by_cases k1 : x < 0
  · exact ct_of ok_Land_has rfl (r_to ok_Land_has 9999 [true] rfl (by
      refine ⟨?_, trivial⟩ <;> simp (disch := omega) only [mj_c1, mj_c2, hw, hh, show (0 : Int32) = iI 0 from rfl, iI_lt, iI_le] <;> omega)) rfl rfl ⟨rfl, rfl⟩ rfl rfl
  by_cases k2 : w ≤ x
  · exact ct_of ok_Land_has rfl (r_to ok_Land_has 9999 [false, true] rfl (by
      refine ⟨?_, ?_, trivial⟩ <;> simp (disch := omega) only [mj_c1, mj_c2, hw, hh, show (0 : Int32) = iI 0 from rfl, iI_lt, iI_le] <;> omega)) rfl rfl ⟨rfl, rfl⟩ rfl rfl
  by_cases k3 : y < 0
  · exact ct_of ok_Land_has rfl (r_to ok_Land_has 9999 [false, false, true] rfl (by
      refine ⟨?_, ?_, ?_, trivial⟩ <;> simp (disch := omega) only [mj_c1, mj_c2, hw, hh, show (0 : Int32) = iI 0 from rfl, iI_lt, iI_le] <;> omega)) rfl rfl ⟨rfl, rfl⟩ rfl rfl
  · exact ct_of ok_Land_has rfl (r_to ok_Land_has 9999 [false, false, false, true] rfl (by
      refine ⟨?_, ?_, ?_, ?_, trivial⟩ <;> simp (disch := omega) only [mj_c1, mj_c2, hw, hh, show (0 : Int32) = iI 0 from rfl, iI_lt, iI_le] <;> omega)) rfl rfl ⟨rfl, rfl⟩ rfl rfl
end LAND1
